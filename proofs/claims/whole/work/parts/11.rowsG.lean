/-! Rows of LazyGraphs$Graph: instructions, and what each asks of the state behind it. Printed by wip/genparts.py. -/
abbrev q_G_init (S : Nat → List (Option Value) → List Value → hz_H → Prop) := hz_w zCl zKT f_Gi n_G c_G_init [] S
section
variable {S : Nat → List (Option Value) → List Value → hz_H → Prop} {f : Nat} {L : List (Option Value)} {st : List Value} {h : hz_H} {x y : Int32} {i j : Nat} {X Y : Int64}
theorem d_G_init_0 : decode c_G_init 0 = .ok (.aload_n 0, 1) := by decide +kernel
theorem e_G_init_0 : q_G_init S (f + 1) 0 [some (.ref i)] st h = (q_G_init S f 1 [some (.ref i)] (.ref i :: st) h) := by rw [q_G_init, hz_w_at d_G_init_0]; rfl
theorem e_G_init_0n : q_G_init S (f + 1) 0 [some .null] st h = (q_G_init S f 1 [some .null] (.null :: st) h) := by rw [q_G_init, hz_w_at d_G_init_0]; rfl
theorem d_G_init_1 : decode c_G_init 1 = .ok (.invokespecial 3, 3) := by decide +kernel
theorem e_G_init_1 : q_G_init S (f + 1) 1 L st h = (S 1 L st h) := by rw [q_G_init, hz_w_at d_G_init_1]; rfl
theorem d_G_init_4 : decode c_G_init 4 = .ok (.aload_n 0, 1) := by decide +kernel
theorem e_G_init_4 : q_G_init S (f + 1) 4 [some (.ref i)] st h = (q_G_init S f 5 [some (.ref i)] (.ref i :: st) h) := by rw [q_G_init, hz_w_at d_G_init_4]; rfl
theorem e_G_init_4n : q_G_init S (f + 1) 4 [some .null] st h = (q_G_init S f 5 [some .null] (.null :: st) h) := by rw [q_G_init, hz_w_at d_G_init_4]; rfl
theorem d_G_init_5 : decode c_G_init 5 = .ok (.bipush 26, 2) := by decide +kernel
theorem e_G_init_5 : q_G_init S (f + 1) 5 L st h = (q_G_init S f 7 L (.int (hz_n 26) :: st) h) := by rw [q_G_init, hz_w_at d_G_init_5]; rfl
theorem d_G_init_7 : decode c_G_init 7 = .ok (.anewarray 9, 3) := by decide +kernel
theorem e_G_init_7 : q_G_init S (f + 1) 7 L st h = (S 7 L st h) := by rw [q_G_init, hz_w_at d_G_init_7]; rfl
theorem d_G_init_10 : decode c_G_init 10 = .ok (.putfield 11, 3) := by decide +kernel
theorem e_G_init_10 : q_G_init S (f + 1) 10 L (.ref j :: .ref i :: st) h = (hz_wr h i 1 0 (.ref j) fun h => q_G_init S f 13 L st h) := by rw [q_G_init, hz_w_at d_G_init_10]; rfl
theorem d_G_init_13 : decode c_G_init 13 = .ok (.aload_n 0, 1) := by decide +kernel
theorem e_G_init_13 : q_G_init S (f + 1) 13 [some (.ref i)] st h = (q_G_init S f 14 [some (.ref i)] (.ref i :: st) h) := by rw [q_G_init, hz_w_at d_G_init_13]; rfl
theorem e_G_init_13n : q_G_init S (f + 1) 13 [some .null] st h = (q_G_init S f 14 [some .null] (.null :: st) h) := by rw [q_G_init, hz_w_at d_G_init_13]; rfl
theorem d_G_init_14 : decode c_G_init 14 = .ok (.bipush 50, 2) := by decide +kernel
theorem e_G_init_14 : q_G_init S (f + 1) 14 L st h = (q_G_init S f 16 L (.int (hz_n 50) :: st) h) := by rw [q_G_init, hz_w_at d_G_init_14]; rfl
theorem d_G_init_16 : decode c_G_init 16 = .ok (.anewarray 9, 3) := by decide +kernel
theorem e_G_init_16 : q_G_init S (f + 1) 16 L st h = (S 16 L st h) := by rw [q_G_init, hz_w_at d_G_init_16]; rfl
theorem d_G_init_19 : decode c_G_init 19 = .ok (.putfield 17, 3) := by decide +kernel
theorem e_G_init_19 : q_G_init S (f + 1) 19 L (.ref j :: .ref i :: st) h = (hz_wr h i 1 1 (.ref j) fun h => q_G_init S f 22 L st h) := by rw [q_G_init, hz_w_at d_G_init_19]; rfl
theorem d_G_init_22 : decode c_G_init 22 = .ok (.aload_n 0, 1) := by decide +kernel
theorem e_G_init_22 : q_G_init S (f + 1) 22 [some (.ref i)] st h = (q_G_init S f 23 [some (.ref i)] (.ref i :: st) h) := by rw [q_G_init, hz_w_at d_G_init_22]; rfl
theorem e_G_init_22n : q_G_init S (f + 1) 22 [some .null] st h = (q_G_init S f 23 [some .null] (.null :: st) h) := by rw [q_G_init, hz_w_at d_G_init_22]; rfl
theorem d_G_init_23 : decode c_G_init 23 = .ok (.bipush 26, 2) := by decide +kernel
theorem e_G_init_23 : q_G_init S (f + 1) 23 L st h = (q_G_init S f 25 L (.int (hz_n 26) :: st) h) := by rw [q_G_init, hz_w_at d_G_init_23]; rfl
theorem d_G_init_25 : decode c_G_init 25 = .ok (.newarray .int, 2) := by decide +kernel
theorem e_G_init_25 : q_G_init S (f + 1) 25 L st h = (S 25 L st h) := by rw [q_G_init, hz_w_at d_G_init_25]; rfl
theorem d_G_init_27 : decode c_G_init 27 = .ok (.putfield 20, 3) := by decide +kernel
theorem e_G_init_27 : q_G_init S (f + 1) 27 L (.ref j :: .ref i :: st) h = (hz_wr h i 1 2 (.ref j) fun h => q_G_init S f 30 L st h) := by rw [q_G_init, hz_w_at d_G_init_27]; rfl
theorem d_G_init_30 : decode c_G_init 30 = .ok (.aload_n 0, 1) := by decide +kernel
theorem e_G_init_30 : q_G_init S (f + 1) 30 [some (.ref i)] st h = (q_G_init S f 31 [some (.ref i)] (.ref i :: st) h) := by rw [q_G_init, hz_w_at d_G_init_30]; rfl
theorem e_G_init_30n : q_G_init S (f + 1) 30 [some .null] st h = (q_G_init S f 31 [some .null] (.null :: st) h) := by rw [q_G_init, hz_w_at d_G_init_30]; rfl
theorem d_G_init_31 : decode c_G_init 31 = .ok (.sipush 2001, 3) := by decide +kernel
theorem e_G_init_31 : q_G_init S (f + 1) 31 L st h = (q_G_init S f 34 L (.int (hz_n 2001) :: st) h) := by rw [q_G_init, hz_w_at d_G_init_31]; rfl
theorem d_G_init_34 : decode c_G_init 34 = .ok (.newarray .int, 2) := by decide +kernel
theorem e_G_init_34 : q_G_init S (f + 1) 34 L st h = (S 34 L st h) := by rw [q_G_init, hz_w_at d_G_init_34]; rfl
theorem d_G_init_36 : decode c_G_init 36 = .ok (.putfield 24, 3) := by decide +kernel
theorem e_G_init_36 : q_G_init S (f + 1) 36 L (.ref j :: .ref i :: st) h = (hz_wr h i 1 3 (.ref j) fun h => q_G_init S f 39 L st h) := by rw [q_G_init, hz_w_at d_G_init_36]; rfl
theorem d_G_init_39 : decode c_G_init 39 = .ok (.aload_n 0, 1) := by decide +kernel
theorem e_G_init_39 : q_G_init S (f + 1) 39 [some (.ref i)] st h = (q_G_init S f 40 [some (.ref i)] (.ref i :: st) h) := by rw [q_G_init, hz_w_at d_G_init_39]; rfl
theorem e_G_init_39n : q_G_init S (f + 1) 39 [some .null] st h = (q_G_init S f 40 [some .null] (.null :: st) h) := by rw [q_G_init, hz_w_at d_G_init_39]; rfl
theorem d_G_init_40 : decode c_G_init 40 = .ok (.sipush 2001, 3) := by decide +kernel
theorem e_G_init_40 : q_G_init S (f + 1) 40 L st h = (q_G_init S f 43 L (.int (hz_n 2001) :: st) h) := by rw [q_G_init, hz_w_at d_G_init_40]; rfl
theorem d_G_init_43 : decode c_G_init 43 = .ok (.newarray .int, 2) := by decide +kernel
theorem e_G_init_43 : q_G_init S (f + 1) 43 L st h = (S 43 L st h) := by rw [q_G_init, hz_w_at d_G_init_43]; rfl
theorem d_G_init_45 : decode c_G_init 45 = .ok (.putfield 27, 3) := by decide +kernel
theorem e_G_init_45 : q_G_init S (f + 1) 45 L (.ref j :: .ref i :: st) h = (hz_wr h i 1 4 (.ref j) fun h => q_G_init S f 48 L st h) := by rw [q_G_init, hz_w_at d_G_init_45]; rfl
theorem d_G_init_48 : decode c_G_init 48 = .ok (.aload_n 0, 1) := by decide +kernel
theorem e_G_init_48 : q_G_init S (f + 1) 48 [some (.ref i)] st h = (q_G_init S f 49 [some (.ref i)] (.ref i :: st) h) := by rw [q_G_init, hz_w_at d_G_init_48]; rfl
theorem e_G_init_48n : q_G_init S (f + 1) 48 [some .null] st h = (q_G_init S f 49 [some .null] (.null :: st) h) := by rw [q_G_init, hz_w_at d_G_init_48]; rfl
theorem d_G_init_49 : decode c_G_init 49 = .ok (.sipush 2001, 3) := by decide +kernel
theorem e_G_init_49 : q_G_init S (f + 1) 49 L st h = (q_G_init S f 52 L (.int (hz_n 2001) :: st) h) := by rw [q_G_init, hz_w_at d_G_init_49]; rfl
theorem d_G_init_52 : decode c_G_init 52 = .ok (.newarray .int, 2) := by decide +kernel
theorem e_G_init_52 : q_G_init S (f + 1) 52 L st h = (S 52 L st h) := by rw [q_G_init, hz_w_at d_G_init_52]; rfl
theorem d_G_init_54 : decode c_G_init 54 = .ok (.putfield 30, 3) := by decide +kernel
theorem e_G_init_54 : q_G_init S (f + 1) 54 L (.ref j :: .ref i :: st) h = (hz_wr h i 1 5 (.ref j) fun h => q_G_init S f 57 L st h) := by rw [q_G_init, hz_w_at d_G_init_54]; rfl
theorem d_G_init_57 : decode c_G_init 57 = .ok (.aload_n 0, 1) := by decide +kernel
theorem e_G_init_57 : q_G_init S (f + 1) 57 [some (.ref i)] st h = (q_G_init S f 58 [some (.ref i)] (.ref i :: st) h) := by rw [q_G_init, hz_w_at d_G_init_57]; rfl
theorem e_G_init_57n : q_G_init S (f + 1) 57 [some .null] st h = (q_G_init S f 58 [some .null] (.null :: st) h) := by rw [q_G_init, hz_w_at d_G_init_57]; rfl
theorem d_G_init_58 : decode c_G_init 58 = .ok (.sipush 2001, 3) := by decide +kernel
theorem e_G_init_58 : q_G_init S (f + 1) 58 L st h = (q_G_init S f 61 L (.int (hz_n 2001) :: st) h) := by rw [q_G_init, hz_w_at d_G_init_58]; rfl
theorem d_G_init_61 : decode c_G_init 61 = .ok (.newarray .int, 2) := by decide +kernel
theorem e_G_init_61 : q_G_init S (f + 1) 61 L st h = (S 61 L st h) := by rw [q_G_init, hz_w_at d_G_init_61]; rfl
theorem d_G_init_63 : decode c_G_init 63 = .ok (.putfield 33, 3) := by decide +kernel
theorem e_G_init_63 : q_G_init S (f + 1) 63 L (.ref j :: .ref i :: st) h = (hz_wr h i 1 6 (.ref j) fun h => q_G_init S f 66 L st h) := by rw [q_G_init, hz_w_at d_G_init_63]; rfl
theorem d_G_init_66 : decode c_G_init 66 = .ok (.aload_n 0, 1) := by decide +kernel
theorem e_G_init_66 : q_G_init S (f + 1) 66 [some (.ref i)] st h = (q_G_init S f 67 [some (.ref i)] (.ref i :: st) h) := by rw [q_G_init, hz_w_at d_G_init_66]; rfl
theorem e_G_init_66n : q_G_init S (f + 1) 66 [some .null] st h = (q_G_init S f 67 [some .null] (.null :: st) h) := by rw [q_G_init, hz_w_at d_G_init_66]; rfl
theorem d_G_init_67 : decode c_G_init 67 = .ok (.sipush 2001, 3) := by decide +kernel
theorem e_G_init_67 : q_G_init S (f + 1) 67 L st h = (q_G_init S f 70 L (.int (hz_n 2001) :: st) h) := by rw [q_G_init, hz_w_at d_G_init_67]; rfl
theorem d_G_init_70 : decode c_G_init 70 = .ok (.newarray .int, 2) := by decide +kernel
theorem e_G_init_70 : q_G_init S (f + 1) 70 L st h = (S 70 L st h) := by rw [q_G_init, hz_w_at d_G_init_70]; rfl
theorem d_G_init_72 : decode c_G_init 72 = .ok (.putfield 36, 3) := by decide +kernel
theorem e_G_init_72 : q_G_init S (f + 1) 72 L (.ref j :: .ref i :: st) h = (hz_wr h i 1 7 (.ref j) fun h => q_G_init S f 75 L st h) := by rw [q_G_init, hz_w_at d_G_init_72]; rfl
theorem d_G_init_75 : decode c_G_init 75 = .ok (.aload_n 0, 1) := by decide +kernel
theorem e_G_init_75 : q_G_init S (f + 1) 75 [some (.ref i)] st h = (q_G_init S f 76 [some (.ref i)] (.ref i :: st) h) := by rw [q_G_init, hz_w_at d_G_init_75]; rfl
theorem e_G_init_75n : q_G_init S (f + 1) 75 [some .null] st h = (q_G_init S f 76 [some .null] (.null :: st) h) := by rw [q_G_init, hz_w_at d_G_init_75]; rfl
theorem d_G_init_76 : decode c_G_init 76 = .ok (.sipush 2001, 3) := by decide +kernel
theorem e_G_init_76 : q_G_init S (f + 1) 76 L st h = (q_G_init S f 79 L (.int (hz_n 2001) :: st) h) := by rw [q_G_init, hz_w_at d_G_init_76]; rfl
theorem d_G_init_79 : decode c_G_init 79 = .ok (.newarray .int, 2) := by decide +kernel
theorem e_G_init_79 : q_G_init S (f + 1) 79 L st h = (S 79 L st h) := by rw [q_G_init, hz_w_at d_G_init_79]; rfl
theorem d_G_init_81 : decode c_G_init 81 = .ok (.putfield 39, 3) := by decide +kernel
theorem e_G_init_81 : q_G_init S (f + 1) 81 L (.ref j :: .ref i :: st) h = (hz_wr h i 1 8 (.ref j) fun h => q_G_init S f 84 L st h) := by rw [q_G_init, hz_w_at d_G_init_81]; rfl
theorem d_G_init_84 : decode c_G_init 84 = .ok (.aload_n 0, 1) := by decide +kernel
theorem e_G_init_84 : q_G_init S (f + 1) 84 [some (.ref i)] st h = (q_G_init S f 85 [some (.ref i)] (.ref i :: st) h) := by rw [q_G_init, hz_w_at d_G_init_84]; rfl
theorem e_G_init_84n : q_G_init S (f + 1) 84 [some .null] st h = (q_G_init S f 85 [some .null] (.null :: st) h) := by rw [q_G_init, hz_w_at d_G_init_84]; rfl
theorem d_G_init_85 : decode c_G_init 85 = .ok (.iconst 0, 1) := by decide +kernel
theorem e_G_init_85 : q_G_init S (f + 1) 85 L st h = (q_G_init S f 86 L (.int (hz_n 0) :: st) h) := by rw [q_G_init, hz_w_at d_G_init_85]; rfl
theorem d_G_init_86 : decode c_G_init 86 = .ok (.putfield 42, 3) := by decide +kernel
theorem e_G_init_86 : q_G_init S (f + 1) 86 L (.int x :: .ref i :: st) h = (hz_wr h i 1 9 (.int x) fun h => q_G_init S f 89 L st h) := by rw [q_G_init, hz_w_at d_G_init_86]; rfl
theorem d_G_init_89 : decode c_G_init 89 = .ok (.aload_n 0, 1) := by decide +kernel
theorem e_G_init_89 : q_G_init S (f + 1) 89 [some (.ref i)] st h = (q_G_init S f 90 [some (.ref i)] (.ref i :: st) h) := by rw [q_G_init, hz_w_at d_G_init_89]; rfl
theorem e_G_init_89n : q_G_init S (f + 1) 89 [some .null] st h = (q_G_init S f 90 [some .null] (.null :: st) h) := by rw [q_G_init, hz_w_at d_G_init_89]; rfl
theorem d_G_init_90 : decode c_G_init 90 = .ok (.iconst 0, 1) := by decide +kernel
theorem e_G_init_90 : q_G_init S (f + 1) 90 L st h = (q_G_init S f 91 L (.int (hz_n 0) :: st) h) := by rw [q_G_init, hz_w_at d_G_init_90]; rfl
theorem d_G_init_91 : decode c_G_init 91 = .ok (.putfield 46, 3) := by decide +kernel
theorem e_G_init_91 : q_G_init S (f + 1) 91 L (.int x :: .ref i :: st) h = (hz_wr h i 1 10 (.int x) fun h => q_G_init S f 94 L st h) := by rw [q_G_init, hz_w_at d_G_init_91]; rfl
theorem d_G_init_94 : decode c_G_init 94 = .ok (.aload_n 0, 1) := by decide +kernel
theorem e_G_init_94 : q_G_init S (f + 1) 94 [some (.ref i)] st h = (q_G_init S f 95 [some (.ref i)] (.ref i :: st) h) := by rw [q_G_init, hz_w_at d_G_init_94]; rfl
theorem e_G_init_94n : q_G_init S (f + 1) 94 [some .null] st h = (q_G_init S f 95 [some .null] (.null :: st) h) := by rw [q_G_init, hz_w_at d_G_init_94]; rfl
theorem d_G_init_95 : decode c_G_init 95 = .ok (.iconst 0, 1) := by decide +kernel
theorem e_G_init_95 : q_G_init S (f + 1) 95 L st h = (q_G_init S f 96 L (.int (hz_n 0) :: st) h) := by rw [q_G_init, hz_w_at d_G_init_95]; rfl
theorem d_G_init_96 : decode c_G_init 96 = .ok (.putfield 49, 3) := by decide +kernel
theorem e_G_init_96 : q_G_init S (f + 1) 96 L (.int x :: .ref i :: st) h = (hz_wr h i 1 11 (.int x) fun h => q_G_init S f 99 L st h) := by rw [q_G_init, hz_w_at d_G_init_96]; rfl
theorem d_G_init_99 : decode c_G_init 99 = .ok (.aload_n 0, 1) := by decide +kernel
theorem e_G_init_99 : q_G_init S (f + 1) 99 [some (.ref i)] st h = (q_G_init S f 100 [some (.ref i)] (.ref i :: st) h) := by rw [q_G_init, hz_w_at d_G_init_99]; rfl
theorem e_G_init_99n : q_G_init S (f + 1) 99 [some .null] st h = (q_G_init S f 100 [some .null] (.null :: st) h) := by rw [q_G_init, hz_w_at d_G_init_99]; rfl
theorem d_G_init_100 : decode c_G_init 100 = .ok (.iconst 0, 1) := by decide +kernel
theorem e_G_init_100 : q_G_init S (f + 1) 100 L st h = (q_G_init S f 101 L (.int (hz_n 0) :: st) h) := by rw [q_G_init, hz_w_at d_G_init_100]; rfl
theorem d_G_init_101 : decode c_G_init 101 = .ok (.putfield 52, 3) := by decide +kernel
theorem e_G_init_101 : q_G_init S (f + 1) 101 L (.int x :: .ref i :: st) h = (hz_wr h i 1 12 (.int x) fun h => q_G_init S f 104 L st h) := by rw [q_G_init, hz_w_at d_G_init_101]; rfl
theorem d_G_init_104 : decode c_G_init 104 = .ok (.aload_n 0, 1) := by decide +kernel
theorem e_G_init_104 : q_G_init S (f + 1) 104 [some (.ref i)] st h = (q_G_init S f 105 [some (.ref i)] (.ref i :: st) h) := by rw [q_G_init, hz_w_at d_G_init_104]; rfl
theorem e_G_init_104n : q_G_init S (f + 1) 104 [some .null] st h = (q_G_init S f 105 [some .null] (.null :: st) h) := by rw [q_G_init, hz_w_at d_G_init_104]; rfl
theorem d_G_init_105 : decode c_G_init 105 = .ok (.iconst 0, 1) := by decide +kernel
theorem e_G_init_105 : q_G_init S (f + 1) 105 L st h = (q_G_init S f 106 L (.int (hz_n 0) :: st) h) := by rw [q_G_init, hz_w_at d_G_init_105]; rfl
theorem d_G_init_106 : decode c_G_init 106 = .ok (.putfield 55, 3) := by decide +kernel
theorem e_G_init_106 : q_G_init S (f + 1) 106 L (.int x :: .ref i :: st) h = (hz_wr h i 1 13 (.int x) fun h => q_G_init S f 109 L st h) := by rw [q_G_init, hz_w_at d_G_init_106]; rfl
theorem d_G_init_109 : decode c_G_init 109 = .ok (.return_, 1) := by decide +kernel
theorem e_G_init_109 : q_G_init S (f + 1) 109 L st h = (S 109 L st h) := by rw [q_G_init, hz_w_at d_G_init_109]; rfl
end
abbrev q_G_parameterCount (S : Nat → List (Option Value) → List Value → hz_H → Prop) := hz_w zCl zKT f_G n_G c_G_parameterCount [] S
section
variable {S : Nat → List (Option Value) → List Value → hz_H → Prop} {f : Nat} {L : List (Option Value)} {st : List Value} {h : hz_H} {x y : Int32} {i j : Nat} {X Y : Int64}
theorem d_G_parameterCount_0 : decode c_G_parameterCount 0 = .ok (.aload_n 0, 1) := by decide +kernel
theorem e_G_parameterCount_0 {a1 a2 : Option Value} : q_G_parameterCount S (f + 1) 0 [some (.ref i), a1, a2] st h = (q_G_parameterCount S f 1 [some (.ref i), a1, a2] (.ref i :: st) h) := by rw [q_G_parameterCount, hz_w_at d_G_parameterCount_0]; rfl
theorem e_G_parameterCount_0n {a1 a2 : Option Value} : q_G_parameterCount S (f + 1) 0 [some .null, a1, a2] st h = (q_G_parameterCount S f 1 [some .null, a1, a2] (.null :: st) h) := by rw [q_G_parameterCount, hz_w_at d_G_parameterCount_0]; rfl
theorem d_G_parameterCount_1 : decode c_G_parameterCount 1 = .ok (.getfield 11, 3) := by decide +kernel
theorem e_G_parameterCount_1 : q_G_parameterCount S (f + 1) 1 L (.ref i :: st) h = (hz_rd h i 1 0 fun v => q_G_parameterCount S f 4 L (v :: st) h) := by rw [q_G_parameterCount, hz_w_at d_G_parameterCount_1]; rfl
theorem d_G_parameterCount_4 : decode c_G_parameterCount 4 = .ok (.iload_n 1, 1) := by decide +kernel
theorem e_G_parameterCount_4 {a0 a2 : Option Value} : q_G_parameterCount S (f + 1) 4 [a0, some (.int x), a2] st h = (q_G_parameterCount S f 5 [a0, some (.int x), a2] (.int x :: st) h) := by rw [q_G_parameterCount, hz_w_at d_G_parameterCount_4]; rfl
theorem d_G_parameterCount_5 : decode c_G_parameterCount 5 = .ok (.aaload, 1) := by decide +kernel
theorem e_G_parameterCount_5 : q_G_parameterCount S (f + 1) 5 L (.int x :: .ref i :: st) h = (hz_ea zKT hz_kA h i x fun v => q_G_parameterCount S f 6 L (v :: st) h) := by rw [q_G_parameterCount, hz_w_at d_G_parameterCount_5]; rfl
theorem d_G_parameterCount_6 : decode c_G_parameterCount 6 = .ok (.astore_n 2, 1) := by decide +kernel
theorem e_G_parameterCount_6 {a0 a1 a2 : Option Value} : q_G_parameterCount S (f + 1) 6 [a0, a1, a2] (.ref i :: st) h = (q_G_parameterCount S f 7 [a0, a1, some (.ref i)] st h) := by rw [q_G_parameterCount, hz_w_at d_G_parameterCount_6]; rfl
theorem e_G_parameterCount_6n {a0 a1 a2 : Option Value} : q_G_parameterCount S (f + 1) 6 [a0, a1, a2] (.null :: st) h = (q_G_parameterCount S f 7 [a0, a1, some .null] st h) := by rw [q_G_parameterCount, hz_w_at d_G_parameterCount_6]; rfl
theorem d_G_parameterCount_7 : decode c_G_parameterCount 7 = .ok (.aload_n 2, 1) := by decide +kernel
theorem e_G_parameterCount_7 {a0 a1 : Option Value} : q_G_parameterCount S (f + 1) 7 [a0, a1, some (.ref i)] st h = (q_G_parameterCount S f 8 [a0, a1, some (.ref i)] (.ref i :: st) h) := by rw [q_G_parameterCount, hz_w_at d_G_parameterCount_7]; rfl
theorem e_G_parameterCount_7n {a0 a1 : Option Value} : q_G_parameterCount S (f + 1) 7 [a0, a1, some .null] st h = (q_G_parameterCount S f 8 [a0, a1, some .null] (.null :: st) h) := by rw [q_G_parameterCount, hz_w_at d_G_parameterCount_7]; rfl
theorem d_G_parameterCount_8 : decode c_G_parameterCount 8 = .ok (.ifnonnull 7, 3) := by decide +kernel
theorem e_G_parameterCount_8 : q_G_parameterCount S (f + 1) 8 L (.ref i :: st) h = (q_G_parameterCount S f 15 L st h) := by rw [q_G_parameterCount, hz_w_at d_G_parameterCount_8]; rfl
theorem e_G_parameterCount_8n : q_G_parameterCount S (f + 1) 8 L (.null :: st) h = (q_G_parameterCount S f 11 L st h) := by rw [q_G_parameterCount, hz_w_at d_G_parameterCount_8]; rfl
theorem d_G_parameterCount_11 : decode c_G_parameterCount 11 = .ok (.iconst (-1), 1) := by decide +kernel
theorem e_G_parameterCount_11 : q_G_parameterCount S (f + 1) 11 L st h = (q_G_parameterCount S f 12 L (.int (hz_n (-1)) :: st) h) := by rw [q_G_parameterCount, hz_w_at d_G_parameterCount_11]; rfl
theorem d_G_parameterCount_12 : decode c_G_parameterCount 12 = .ok (.goto 7, 3) := by decide +kernel
theorem e_G_parameterCount_12 : q_G_parameterCount S (f + 1) 12 L st h = (q_G_parameterCount S f 19 L st h) := by rw [q_G_parameterCount, hz_w_at d_G_parameterCount_12]; rfl
theorem d_G_parameterCount_15 : decode c_G_parameterCount 15 = .ok (.aload_n 2, 1) := by decide +kernel
theorem e_G_parameterCount_15 {a0 a1 : Option Value} : q_G_parameterCount S (f + 1) 15 [a0, a1, some (.ref i)] st h = (q_G_parameterCount S f 16 [a0, a1, some (.ref i)] (.ref i :: st) h) := by rw [q_G_parameterCount, hz_w_at d_G_parameterCount_15]; rfl
theorem e_G_parameterCount_15n {a0 a1 : Option Value} : q_G_parameterCount S (f + 1) 15 [a0, a1, some .null] st h = (q_G_parameterCount S f 16 [a0, a1, some .null] (.null :: st) h) := by rw [q_G_parameterCount, hz_w_at d_G_parameterCount_15]; rfl
theorem d_G_parameterCount_16 : decode c_G_parameterCount 16 = .ok (.getfield 58, 3) := by decide +kernel
theorem e_G_parameterCount_16 : q_G_parameterCount S (f + 1) 16 L (.ref i :: st) h = (hz_rd h i 0 3 fun v => q_G_parameterCount S f 19 L (v :: st) h) := by rw [q_G_parameterCount, hz_w_at d_G_parameterCount_16]; rfl
theorem d_G_parameterCount_19 : decode c_G_parameterCount 19 = .ok (.ireturn, 1) := by decide +kernel
theorem e_G_parameterCount_19 : q_G_parameterCount S (f + 1) 19 L st h = (S 19 L st h) := by rw [q_G_parameterCount, hz_w_at d_G_parameterCount_19]; rfl
end
abbrev q_G_begin (S : Nat → List (Option Value) → List Value → hz_H → Prop) := hz_w zCl zKT f_G n_G c_G_begin [36] S
section
variable {S : Nat → List (Option Value) → List Value → hz_H → Prop} {f : Nat} {L : List (Option Value)} {st : List Value} {h : hz_H} {x y : Int32} {i j : Nat} {X Y : Int64}
theorem d_G_begin_0 : decode c_G_begin 0 = .ok (.aload_n 0, 1) := by decide +kernel
theorem e_G_begin_0 {a1 a2 a3 : Option Value} : q_G_begin S (f + 1) 0 [some (.ref i), a1, a2, a3] st h = (q_G_begin S f 1 [some (.ref i), a1, a2, a3] (.ref i :: st) h) := by rw [q_G_begin, hz_w_at d_G_begin_0]; rfl
theorem e_G_begin_0n {a1 a2 a3 : Option Value} : q_G_begin S (f + 1) 0 [some .null, a1, a2, a3] st h = (q_G_begin S f 1 [some .null, a1, a2, a3] (.null :: st) h) := by rw [q_G_begin, hz_w_at d_G_begin_0]; rfl
theorem d_G_begin_1 : decode c_G_begin 1 = .ok (.iload_n 1, 1) := by decide +kernel
theorem e_G_begin_1 {a0 a2 a3 : Option Value} : q_G_begin S (f + 1) 1 [a0, some (.int x), a2, a3] st h = (q_G_begin S f 2 [a0, some (.int x), a2, a3] (.int x :: st) h) := by rw [q_G_begin, hz_w_at d_G_begin_1]; rfl
theorem d_G_begin_2 : decode c_G_begin 2 = .ok (.putfield 46, 3) := by decide +kernel
theorem e_G_begin_2 : q_G_begin S (f + 1) 2 L (.int x :: .ref i :: st) h = (hz_wr h i 1 10 (.int x) fun h => q_G_begin S f 5 L st h) := by rw [q_G_begin, hz_w_at d_G_begin_2]; rfl
theorem d_G_begin_5 : decode c_G_begin 5 = .ok (.aload_n 0, 1) := by decide +kernel
theorem e_G_begin_5 {a1 a2 a3 : Option Value} : q_G_begin S (f + 1) 5 [some (.ref i), a1, a2, a3] st h = (q_G_begin S f 6 [some (.ref i), a1, a2, a3] (.ref i :: st) h) := by rw [q_G_begin, hz_w_at d_G_begin_5]; rfl
theorem e_G_begin_5n {a1 a2 a3 : Option Value} : q_G_begin S (f + 1) 5 [some .null, a1, a2, a3] st h = (q_G_begin S f 6 [some .null, a1, a2, a3] (.null :: st) h) := by rw [q_G_begin, hz_w_at d_G_begin_5]; rfl
theorem d_G_begin_6 : decode c_G_begin 6 = .ok (.iload_n 2, 1) := by decide +kernel
theorem e_G_begin_6 {a0 a1 a3 : Option Value} : q_G_begin S (f + 1) 6 [a0, a1, some (.int x), a3] st h = (q_G_begin S f 7 [a0, a1, some (.int x), a3] (.int x :: st) h) := by rw [q_G_begin, hz_w_at d_G_begin_6]; rfl
theorem d_G_begin_7 : decode c_G_begin 7 = .ok (.putfield 49, 3) := by decide +kernel
theorem e_G_begin_7 : q_G_begin S (f + 1) 7 L (.int x :: .ref i :: st) h = (hz_wr h i 1 11 (.int x) fun h => q_G_begin S f 10 L st h) := by rw [q_G_begin, hz_w_at d_G_begin_7]; rfl
theorem d_G_begin_10 : decode c_G_begin 10 = .ok (.aload_n 0, 1) := by decide +kernel
theorem e_G_begin_10 {a1 a2 a3 : Option Value} : q_G_begin S (f + 1) 10 [some (.ref i), a1, a2, a3] st h = (q_G_begin S f 11 [some (.ref i), a1, a2, a3] (.ref i :: st) h) := by rw [q_G_begin, hz_w_at d_G_begin_10]; rfl
theorem e_G_begin_10n {a1 a2 a3 : Option Value} : q_G_begin S (f + 1) 10 [some .null, a1, a2, a3] st h = (q_G_begin S f 11 [some .null, a1, a2, a3] (.null :: st) h) := by rw [q_G_begin, hz_w_at d_G_begin_10]; rfl
theorem d_G_begin_11 : decode c_G_begin 11 = .ok (.iconst 0, 1) := by decide +kernel
theorem e_G_begin_11 : q_G_begin S (f + 1) 11 L st h = (q_G_begin S f 12 L (.int (hz_n 0) :: st) h) := by rw [q_G_begin, hz_w_at d_G_begin_11]; rfl
theorem d_G_begin_12 : decode c_G_begin 12 = .ok (.putfield 52, 3) := by decide +kernel
theorem e_G_begin_12 : q_G_begin S (f + 1) 12 L (.int x :: .ref i :: st) h = (hz_wr h i 1 12 (.int x) fun h => q_G_begin S f 15 L st h) := by rw [q_G_begin, hz_w_at d_G_begin_12]; rfl
theorem d_G_begin_15 : decode c_G_begin 15 = .ok (.aload_n 0, 1) := by decide +kernel
theorem e_G_begin_15 {a1 a2 a3 : Option Value} : q_G_begin S (f + 1) 15 [some (.ref i), a1, a2, a3] st h = (q_G_begin S f 16 [some (.ref i), a1, a2, a3] (.ref i :: st) h) := by rw [q_G_begin, hz_w_at d_G_begin_15]; rfl
theorem e_G_begin_15n {a1 a2 a3 : Option Value} : q_G_begin S (f + 1) 15 [some .null, a1, a2, a3] st h = (q_G_begin S f 16 [some .null, a1, a2, a3] (.null :: st) h) := by rw [q_G_begin, hz_w_at d_G_begin_15]; rfl
theorem d_G_begin_16 : decode c_G_begin 16 = .ok (.iconst 0, 1) := by decide +kernel
theorem e_G_begin_16 : q_G_begin S (f + 1) 16 L st h = (q_G_begin S f 17 L (.int (hz_n 0) :: st) h) := by rw [q_G_begin, hz_w_at d_G_begin_16]; rfl
theorem d_G_begin_17 : decode c_G_begin 17 = .ok (.putfield 55, 3) := by decide +kernel
theorem e_G_begin_17 : q_G_begin S (f + 1) 17 L (.int x :: .ref i :: st) h = (hz_wr h i 1 13 (.int x) fun h => q_G_begin S f 20 L st h) := by rw [q_G_begin, hz_w_at d_G_begin_17]; rfl
theorem d_G_begin_20 : decode c_G_begin 20 = .ok (.aload_n 0, 1) := by decide +kernel
theorem e_G_begin_20 {a1 a2 a3 : Option Value} : q_G_begin S (f + 1) 20 [some (.ref i), a1, a2, a3] st h = (q_G_begin S f 21 [some (.ref i), a1, a2, a3] (.ref i :: st) h) := by rw [q_G_begin, hz_w_at d_G_begin_20]; rfl
theorem e_G_begin_20n {a1 a2 a3 : Option Value} : q_G_begin S (f + 1) 20 [some .null, a1, a2, a3] st h = (q_G_begin S f 21 [some .null, a1, a2, a3] (.null :: st) h) := by rw [q_G_begin, hz_w_at d_G_begin_20]; rfl
theorem d_G_begin_21 : decode c_G_begin 21 = .ok (.iconst 0, 1) := by decide +kernel
theorem e_G_begin_21 : q_G_begin S (f + 1) 21 L st h = (q_G_begin S f 22 L (.int (hz_n 0) :: st) h) := by rw [q_G_begin, hz_w_at d_G_begin_21]; rfl
theorem d_G_begin_22 : decode c_G_begin 22 = .ok (.putfield 42, 3) := by decide +kernel
theorem e_G_begin_22 : q_G_begin S (f + 1) 22 L (.int x :: .ref i :: st) h = (hz_wr h i 1 9 (.int x) fun h => q_G_begin S f 25 L st h) := by rw [q_G_begin, hz_w_at d_G_begin_22]; rfl
theorem d_G_begin_25 : decode c_G_begin 25 = .ok (.aload_n 0, 1) := by decide +kernel
theorem e_G_begin_25 {a1 a2 a3 : Option Value} : q_G_begin S (f + 1) 25 [some (.ref i), a1, a2, a3] st h = (q_G_begin S f 26 [some (.ref i), a1, a2, a3] (.ref i :: st) h) := by rw [q_G_begin, hz_w_at d_G_begin_25]; rfl
theorem e_G_begin_25n {a1 a2 a3 : Option Value} : q_G_begin S (f + 1) 25 [some .null, a1, a2, a3] st h = (q_G_begin S f 26 [some .null, a1, a2, a3] (.null :: st) h) := by rw [q_G_begin, hz_w_at d_G_begin_25]; rfl
theorem d_G_begin_26 : decode c_G_begin 26 = .ok (.getfield 24, 3) := by decide +kernel
theorem e_G_begin_26 : q_G_begin S (f + 1) 26 L (.ref i :: st) h = (hz_rd h i 1 3 fun v => q_G_begin S f 29 L (v :: st) h) := by rw [q_G_begin, hz_w_at d_G_begin_26]; rfl
theorem d_G_begin_29 : decode c_G_begin 29 = .ok (.sipush 2000, 3) := by decide +kernel
theorem e_G_begin_29 : q_G_begin S (f + 1) 29 L st h = (q_G_begin S f 32 L (.int (hz_n 2000) :: st) h) := by rw [q_G_begin, hz_w_at d_G_begin_29]; rfl
theorem d_G_begin_32 : decode c_G_begin 32 = .ok (.iconst 0, 1) := by decide +kernel
theorem e_G_begin_32 : q_G_begin S (f + 1) 32 L st h = (q_G_begin S f 33 L (.int (hz_n 0) :: st) h) := by rw [q_G_begin, hz_w_at d_G_begin_32]; rfl
theorem d_G_begin_33 : decode c_G_begin 33 = .ok (.iastore, 1) := by decide +kernel
theorem e_G_begin_33 : q_G_begin S (f + 1) 33 L (.int y :: .int x :: .ref i :: st) h = (hz_es zKT hz_kI h i x (.int y) fun h => q_G_begin S f 34 L st h) := by rw [q_G_begin, hz_w_at d_G_begin_33]; rfl
theorem d_G_begin_34 : decode c_G_begin 34 = .ok (.iconst 0, 1) := by decide +kernel
theorem e_G_begin_34 : q_G_begin S (f + 1) 34 L st h = (q_G_begin S f 35 L (.int (hz_n 0) :: st) h) := by rw [q_G_begin, hz_w_at d_G_begin_34]; rfl
theorem d_G_begin_35 : decode c_G_begin 35 = .ok (.istore_n 3, 1) := by decide +kernel
theorem e_G_begin_35 {a0 a1 a2 a3 : Option Value} : q_G_begin S (f + 1) 35 [a0, a1, a2, a3] (.int x :: st) h = (S 36 [a0, a1, a2, some (.int x)] st h) := by rw [q_G_begin, hz_w_at d_G_begin_35]; rfl
theorem d_G_begin_36 : decode c_G_begin 36 = .ok (.iload_n 3, 1) := by decide +kernel
theorem e_G_begin_36 {a0 a1 a2 : Option Value} : q_G_begin S (f + 1) 36 [a0, a1, a2, some (.int x)] st h = (q_G_begin S f 37 [a0, a1, a2, some (.int x)] (.int x :: st) h) := by rw [q_G_begin, hz_w_at d_G_begin_36]; rfl
theorem d_G_begin_37 : decode c_G_begin 37 = .ok (.bipush 26, 2) := by decide +kernel
theorem e_G_begin_37 : q_G_begin S (f + 1) 37 L st h = (q_G_begin S f 39 L (.int (hz_n 26) :: st) h) := by rw [q_G_begin, hz_w_at d_G_begin_37]; rfl
theorem d_G_begin_39 : decode c_G_begin 39 = .ok (.if_icmp .ge 16, 3) := by decide +kernel
theorem e_G_begin_39 : q_G_begin S (f + 1) 39 L (.int y :: .int x :: st) h = ((y.toInt ≤ x.toInt → q_G_begin S f 55 L st h) ∧ (¬ (y.toInt ≤ x.toInt) → q_G_begin S f 42 L st h)) := by rw [q_G_begin, hz_w_at d_G_begin_39]; rfl
theorem d_G_begin_42 : decode c_G_begin 42 = .ok (.aload_n 0, 1) := by decide +kernel
theorem e_G_begin_42 {a1 a2 a3 : Option Value} : q_G_begin S (f + 1) 42 [some (.ref i), a1, a2, a3] st h = (q_G_begin S f 43 [some (.ref i), a1, a2, a3] (.ref i :: st) h) := by rw [q_G_begin, hz_w_at d_G_begin_42]; rfl
theorem e_G_begin_42n {a1 a2 a3 : Option Value} : q_G_begin S (f + 1) 42 [some .null, a1, a2, a3] st h = (q_G_begin S f 43 [some .null, a1, a2, a3] (.null :: st) h) := by rw [q_G_begin, hz_w_at d_G_begin_42]; rfl
theorem d_G_begin_43 : decode c_G_begin 43 = .ok (.getfield 20, 3) := by decide +kernel
theorem e_G_begin_43 : q_G_begin S (f + 1) 43 L (.ref i :: st) h = (hz_rd h i 1 2 fun v => q_G_begin S f 46 L (v :: st) h) := by rw [q_G_begin, hz_w_at d_G_begin_43]; rfl
theorem d_G_begin_46 : decode c_G_begin 46 = .ok (.iload_n 3, 1) := by decide +kernel
theorem e_G_begin_46 {a0 a1 a2 : Option Value} : q_G_begin S (f + 1) 46 [a0, a1, a2, some (.int x)] st h = (q_G_begin S f 47 [a0, a1, a2, some (.int x)] (.int x :: st) h) := by rw [q_G_begin, hz_w_at d_G_begin_46]; rfl
theorem d_G_begin_47 : decode c_G_begin 47 = .ok (.iconst (-1), 1) := by decide +kernel
theorem e_G_begin_47 : q_G_begin S (f + 1) 47 L st h = (q_G_begin S f 48 L (.int (hz_n (-1)) :: st) h) := by rw [q_G_begin, hz_w_at d_G_begin_47]; rfl
theorem d_G_begin_48 : decode c_G_begin 48 = .ok (.iastore, 1) := by decide +kernel
theorem e_G_begin_48 : q_G_begin S (f + 1) 48 L (.int y :: .int x :: .ref i :: st) h = (hz_es zKT hz_kI h i x (.int y) fun h => q_G_begin S f 49 L st h) := by rw [q_G_begin, hz_w_at d_G_begin_48]; rfl
theorem d_G_begin_49 : decode c_G_begin 49 = .ok (.iinc 3 1, 3) := by decide +kernel
theorem e_G_begin_49 {a0 a1 a2 : Option Value} : q_G_begin S (f + 1) 49 [a0, a1, a2, some (.int x)] st h = (q_G_begin S f 52 [a0, a1, a2, some (.int (x + hz_n 1))] st h) := by rw [q_G_begin, hz_w_at d_G_begin_49]; rfl
theorem d_G_begin_52 : decode c_G_begin 52 = .ok (.goto (-16), 3) := by decide +kernel
theorem e_G_begin_52 : q_G_begin S (f + 1) 52 L st h = (S 36 L st h) := by rw [q_G_begin, hz_w_at d_G_begin_52]; rfl
theorem d_G_begin_55 : decode c_G_begin 55 = .ok (.return_, 1) := by decide +kernel
theorem e_G_begin_55 : q_G_begin S (f + 1) 55 L st h = (S 55 L st h) := by rw [q_G_begin, hz_w_at d_G_begin_55]; rfl
end
abbrev q_G_need (S : Nat → List (Option Value) → List Value → hz_H → Prop) := hz_w zCl zKT f_G n_G c_G_need [17] S
section
variable {S : Nat → List (Option Value) → List Value → hz_H → Prop} {f : Nat} {L : List (Option Value)} {st : List Value} {h : hz_H} {x y : Int32} {i j : Nat} {X Y : Int64}
theorem d_G_need_0 : decode c_G_need 0 = .ok (.aload_n 0, 1) := by decide +kernel
theorem e_G_need_0 {a1 a2 : Option Value} : q_G_need S (f + 1) 0 [some (.ref i), a1, a2] st h = (q_G_need S f 1 [some (.ref i), a1, a2] (.ref i :: st) h) := by rw [q_G_need, hz_w_at d_G_need_0]; rfl
theorem e_G_need_0n {a1 a2 : Option Value} : q_G_need S (f + 1) 0 [some .null, a1, a2] st h = (q_G_need S f 1 [some .null, a1, a2] (.null :: st) h) := by rw [q_G_need, hz_w_at d_G_need_0]; rfl
theorem d_G_need_1 : decode c_G_need 1 = .ok (.getfield 55, 3) := by decide +kernel
theorem e_G_need_1 : q_G_need S (f + 1) 1 L (.ref i :: st) h = (hz_rd h i 1 13 fun v => q_G_need S f 4 L (v :: st) h) := by rw [q_G_need, hz_w_at d_G_need_1]; rfl
theorem d_G_need_4 : decode c_G_need 4 = .ok (.ifCond .ne 54, 3) := by decide +kernel
theorem e_G_need_4 : q_G_need S (f + 1) 4 L (.int x :: st) h = ((¬ x.toInt = 0 → q_G_need S f 58 L st h) ∧ (¬ (¬ x.toInt = 0) → q_G_need S f 7 L st h)) := by rw [q_G_need, hz_w_at d_G_need_4]; rfl
theorem d_G_need_7 : decode c_G_need 7 = .ok (.aload_n 0, 1) := by decide +kernel
theorem e_G_need_7 {a1 a2 : Option Value} : q_G_need S (f + 1) 7 [some (.ref i), a1, a2] st h = (q_G_need S f 8 [some (.ref i), a1, a2] (.ref i :: st) h) := by rw [q_G_need, hz_w_at d_G_need_7]; rfl
theorem e_G_need_7n {a1 a2 : Option Value} : q_G_need S (f + 1) 7 [some .null, a1, a2] st h = (q_G_need S f 8 [some .null, a1, a2] (.null :: st) h) := by rw [q_G_need, hz_w_at d_G_need_7]; rfl
theorem d_G_need_8 : decode c_G_need 8 = .ok (.iload_n 1, 1) := by decide +kernel
theorem e_G_need_8 {a0 a2 : Option Value} : q_G_need S (f + 1) 8 [a0, some (.int x), a2] st h = (q_G_need S f 9 [a0, some (.int x), a2] (.int x :: st) h) := by rw [q_G_need, hz_w_at d_G_need_8]; rfl
theorem d_G_need_9 : decode c_G_need 9 = .ok (.invokevirtual 61, 3) := by decide +kernel
theorem e_G_need_9 : q_G_need S (f + 1) 9 L st h = (S 9 L st h) := by rw [q_G_need, hz_w_at d_G_need_9]; rfl
theorem d_G_need_12 : decode c_G_need 12 = .ok (.ifCond .ne 46, 3) := by decide +kernel
theorem e_G_need_12 : q_G_need S (f + 1) 12 L (.int x :: st) h = ((¬ x.toInt = 0 → q_G_need S f 58 L st h) ∧ (¬ (¬ x.toInt = 0) → q_G_need S f 15 L st h)) := by rw [q_G_need, hz_w_at d_G_need_12]; rfl
theorem d_G_need_15 : decode c_G_need 15 = .ok (.iconst 0, 1) := by decide +kernel
theorem e_G_need_15 : q_G_need S (f + 1) 15 L st h = (q_G_need S f 16 L (.int (hz_n 0) :: st) h) := by rw [q_G_need, hz_w_at d_G_need_15]; rfl
theorem d_G_need_16 : decode c_G_need 16 = .ok (.istore_n 2, 1) := by decide +kernel
theorem e_G_need_16 {a0 a1 a2 : Option Value} : q_G_need S (f + 1) 16 [a0, a1, a2] (.int x :: st) h = (S 17 [a0, a1, some (.int x)] st h) := by rw [q_G_need, hz_w_at d_G_need_16]; rfl
theorem d_G_need_17 : decode c_G_need 17 = .ok (.iload_n 2, 1) := by decide +kernel
theorem e_G_need_17 {a0 a1 : Option Value} : q_G_need S (f + 1) 17 [a0, a1, some (.int x)] st h = (q_G_need S f 18 [a0, a1, some (.int x)] (.int x :: st) h) := by rw [q_G_need, hz_w_at d_G_need_17]; rfl
theorem d_G_need_18 : decode c_G_need 18 = .ok (.ldc 65, 2) := by decide +kernel
theorem e_G_need_18 : q_G_need S (f + 1) 18 L st h = (q_G_need S f 20 L (.int (1000000 : Int32) :: st) h) := by rw [q_G_need, hz_w_at d_G_need_18]; rfl
theorem d_G_need_20 : decode c_G_need 20 = .ok (.if_icmp .ge 38, 3) := by decide +kernel
theorem e_G_need_20 : q_G_need S (f + 1) 20 L (.int y :: .int x :: st) h = ((y.toInt ≤ x.toInt → q_G_need S f 58 L st h) ∧ (¬ (y.toInt ≤ x.toInt) → q_G_need S f 23 L st h)) := by rw [q_G_need, hz_w_at d_G_need_20]; rfl
theorem d_G_need_23 : decode c_G_need 23 = .ok (.aload_n 0, 1) := by decide +kernel
theorem e_G_need_23 {a1 a2 : Option Value} : q_G_need S (f + 1) 23 [some (.ref i), a1, a2] st h = (q_G_need S f 24 [some (.ref i), a1, a2] (.ref i :: st) h) := by rw [q_G_need, hz_w_at d_G_need_23]; rfl
theorem e_G_need_23n {a1 a2 : Option Value} : q_G_need S (f + 1) 23 [some .null, a1, a2] st h = (q_G_need S f 24 [some .null, a1, a2] (.null :: st) h) := by rw [q_G_need, hz_w_at d_G_need_23]; rfl
theorem d_G_need_24 : decode c_G_need 24 = .ok (.getfield 42, 3) := by decide +kernel
theorem e_G_need_24 : q_G_need S (f + 1) 24 L (.ref i :: st) h = (hz_rd h i 1 9 fun v => q_G_need S f 27 L (v :: st) h) := by rw [q_G_need, hz_w_at d_G_need_24]; rfl
theorem d_G_need_27 : decode c_G_need 27 = .ok (.ifCond .le 31, 3) := by decide +kernel
theorem e_G_need_27 : q_G_need S (f + 1) 27 L (.int x :: st) h = ((x.toInt ≤ 0 → q_G_need S f 58 L st h) ∧ (¬ (x.toInt ≤ 0) → q_G_need S f 30 L st h)) := by rw [q_G_need, hz_w_at d_G_need_27]; rfl
theorem d_G_need_30 : decode c_G_need 30 = .ok (.aload_n 0, 1) := by decide +kernel
theorem e_G_need_30 {a1 a2 : Option Value} : q_G_need S (f + 1) 30 [some (.ref i), a1, a2] st h = (q_G_need S f 31 [some (.ref i), a1, a2] (.ref i :: st) h) := by rw [q_G_need, hz_w_at d_G_need_30]; rfl
theorem e_G_need_30n {a1 a2 : Option Value} : q_G_need S (f + 1) 30 [some .null, a1, a2] st h = (q_G_need S f 31 [some .null, a1, a2] (.null :: st) h) := by rw [q_G_need, hz_w_at d_G_need_30]; rfl
theorem d_G_need_31 : decode c_G_need 31 = .ok (.getfield 55, 3) := by decide +kernel
theorem e_G_need_31 : q_G_need S (f + 1) 31 L (.ref i :: st) h = (hz_rd h i 1 13 fun v => q_G_need S f 34 L (v :: st) h) := by rw [q_G_need, hz_w_at d_G_need_31]; rfl
theorem d_G_need_34 : decode c_G_need 34 = .ok (.ifCond .ne 24, 3) := by decide +kernel
theorem e_G_need_34 : q_G_need S (f + 1) 34 L (.int x :: st) h = ((¬ x.toInt = 0 → q_G_need S f 58 L st h) ∧ (¬ (¬ x.toInt = 0) → q_G_need S f 37 L st h)) := by rw [q_G_need, hz_w_at d_G_need_34]; rfl
theorem d_G_need_37 : decode c_G_need 37 = .ok (.aload_n 0, 1) := by decide +kernel
theorem e_G_need_37 {a1 a2 : Option Value} : q_G_need S (f + 1) 37 [some (.ref i), a1, a2] st h = (q_G_need S f 38 [some (.ref i), a1, a2] (.ref i :: st) h) := by rw [q_G_need, hz_w_at d_G_need_37]; rfl
theorem e_G_need_37n {a1 a2 : Option Value} : q_G_need S (f + 1) 37 [some .null, a1, a2] st h = (q_G_need S f 38 [some .null, a1, a2] (.null :: st) h) := by rw [q_G_need, hz_w_at d_G_need_37]; rfl
theorem d_G_need_38 : decode c_G_need 38 = .ok (.aload_n 0, 1) := by decide +kernel
theorem e_G_need_38 {a1 a2 : Option Value} : q_G_need S (f + 1) 38 [some (.ref i), a1, a2] st h = (q_G_need S f 39 [some (.ref i), a1, a2] (.ref i :: st) h) := by rw [q_G_need, hz_w_at d_G_need_38]; rfl
theorem e_G_need_38n {a1 a2 : Option Value} : q_G_need S (f + 1) 38 [some .null, a1, a2] st h = (q_G_need S f 39 [some .null, a1, a2] (.null :: st) h) := by rw [q_G_need, hz_w_at d_G_need_38]; rfl
theorem d_G_need_39 : decode c_G_need 39 = .ok (.getfield 39, 3) := by decide +kernel
theorem e_G_need_39 : q_G_need S (f + 1) 39 L (.ref i :: st) h = (hz_rd h i 1 8 fun v => q_G_need S f 42 L (v :: st) h) := by rw [q_G_need, hz_w_at d_G_need_39]; rfl
theorem d_G_need_42 : decode c_G_need 42 = .ok (.aload_n 0, 1) := by decide +kernel
theorem e_G_need_42 {a1 a2 : Option Value} : q_G_need S (f + 1) 42 [some (.ref i), a1, a2] st h = (q_G_need S f 43 [some (.ref i), a1, a2] (.ref i :: st) h) := by rw [q_G_need, hz_w_at d_G_need_42]; rfl
theorem e_G_need_42n {a1 a2 : Option Value} : q_G_need S (f + 1) 42 [some .null, a1, a2] st h = (q_G_need S f 43 [some .null, a1, a2] (.null :: st) h) := by rw [q_G_need, hz_w_at d_G_need_42]; rfl
theorem d_G_need_43 : decode c_G_need 43 = .ok (.getfield 42, 3) := by decide +kernel
theorem e_G_need_43 : q_G_need S (f + 1) 43 L (.ref i :: st) h = (hz_rd h i 1 9 fun v => q_G_need S f 46 L (v :: st) h) := by rw [q_G_need, hz_w_at d_G_need_43]; rfl
theorem d_G_need_46 : decode c_G_need 46 = .ok (.iconst 1, 1) := by decide +kernel
theorem e_G_need_46 : q_G_need S (f + 1) 46 L st h = (q_G_need S f 47 L (.int (hz_n 1) :: st) h) := by rw [q_G_need, hz_w_at d_G_need_46]; rfl
theorem d_G_need_47 : decode c_G_need 47 = .ok (.isub, 1) := by decide +kernel
theorem e_G_need_47 : q_G_need S (f + 1) 47 L (.int y :: .int x :: st) h = (q_G_need S f 48 L (.int (x - y) :: st) h) := by rw [q_G_need, hz_w_at d_G_need_47]; rfl
theorem d_G_need_48 : decode c_G_need 48 = .ok (.iaload, 1) := by decide +kernel
theorem e_G_need_48 : q_G_need S (f + 1) 48 L (.int x :: .ref i :: st) h = (hz_ea zKT hz_kI h i x fun v => q_G_need S f 49 L (v :: st) h) := by rw [q_G_need, hz_w_at d_G_need_48]; rfl
theorem d_G_need_49 : decode c_G_need 49 = .ok (.invokevirtual 66, 3) := by decide +kernel
theorem e_G_need_49 : q_G_need S (f + 1) 49 L st h = (S 49 L st h) := by rw [q_G_need, hz_w_at d_G_need_49]; rfl
theorem d_G_need_52 : decode c_G_need 52 = .ok (.iinc 2 1, 3) := by decide +kernel
theorem e_G_need_52 {a0 a1 : Option Value} : q_G_need S (f + 1) 52 [a0, a1, some (.int x)] st h = (q_G_need S f 55 [a0, a1, some (.int (x + hz_n 1))] st h) := by rw [q_G_need, hz_w_at d_G_need_52]; rfl
theorem d_G_need_55 : decode c_G_need 55 = .ok (.goto (-38), 3) := by decide +kernel
theorem e_G_need_55 : q_G_need S (f + 1) 55 L st h = (S 17 L st h) := by rw [q_G_need, hz_w_at d_G_need_55]; rfl
theorem d_G_need_58 : decode c_G_need 58 = .ok (.aload_n 0, 1) := by decide +kernel
theorem e_G_need_58 {a1 a2 : Option Value} : q_G_need S (f + 1) 58 [some (.ref i), a1, a2] st h = (q_G_need S f 59 [some (.ref i), a1, a2] (.ref i :: st) h) := by rw [q_G_need, hz_w_at d_G_need_58]; rfl
theorem e_G_need_58n {a1 a2 : Option Value} : q_G_need S (f + 1) 58 [some .null, a1, a2] st h = (q_G_need S f 59 [some .null, a1, a2] (.null :: st) h) := by rw [q_G_need, hz_w_at d_G_need_58]; rfl
theorem d_G_need_59 : decode c_G_need 59 = .ok (.getfield 55, 3) := by decide +kernel
theorem e_G_need_59 : q_G_need S (f + 1) 59 L (.ref i :: st) h = (hz_rd h i 1 13 fun v => q_G_need S f 62 L (v :: st) h) := by rw [q_G_need, hz_w_at d_G_need_59]; rfl
theorem d_G_need_62 : decode c_G_need 62 = .ok (.ifCond .ne 7, 3) := by decide +kernel
theorem e_G_need_62 : q_G_need S (f + 1) 62 L (.int x :: st) h = ((¬ x.toInt = 0 → q_G_need S f 69 L st h) ∧ (¬ (¬ x.toInt = 0) → q_G_need S f 65 L st h)) := by rw [q_G_need, hz_w_at d_G_need_62]; rfl
theorem d_G_need_65 : decode c_G_need 65 = .ok (.iconst 1, 1) := by decide +kernel
theorem e_G_need_65 : q_G_need S (f + 1) 65 L st h = (q_G_need S f 66 L (.int (hz_n 1) :: st) h) := by rw [q_G_need, hz_w_at d_G_need_65]; rfl
theorem d_G_need_66 : decode c_G_need 66 = .ok (.goto 4, 3) := by decide +kernel
theorem e_G_need_66 : q_G_need S (f + 1) 66 L st h = (q_G_need S f 70 L st h) := by rw [q_G_need, hz_w_at d_G_need_66]; rfl
theorem d_G_need_69 : decode c_G_need 69 = .ok (.iconst 0, 1) := by decide +kernel
theorem e_G_need_69 : q_G_need S (f + 1) 69 L st h = (q_G_need S f 70 L (.int (hz_n 0) :: st) h) := by rw [q_G_need, hz_w_at d_G_need_69]; rfl
theorem d_G_need_70 : decode c_G_need 70 = .ok (.ireturn, 1) := by decide +kernel
theorem e_G_need_70 : q_G_need S (f + 1) 70 L st h = (S 70 L st h) := by rw [q_G_need, hz_w_at d_G_need_70]; rfl
end
abbrev q_G_head (S : Nat → List (Option Value) → List Value → hz_H → Prop) := hz_w zCl zKT f_G n_G c_G_head [] S
section
variable {S : Nat → List (Option Value) → List Value → hz_H → Prop} {f : Nat} {L : List (Option Value)} {st : List Value} {h : hz_H} {x y : Int32} {i j : Nat} {X Y : Int64}
theorem d_G_head_0 : decode c_G_head 0 = .ok (.iload_n 1, 1) := by decide +kernel
theorem e_G_head_0 {a0 : Option Value} : q_G_head S (f + 1) 0 [a0, some (.int x)] st h = (q_G_head S f 1 [a0, some (.int x)] (.int x :: st) h) := by rw [q_G_head, hz_w_at d_G_head_0]; rfl
theorem d_G_head_1 : decode c_G_head 1 = .ok (.iconst 1, 1) := by decide +kernel
theorem e_G_head_1 : q_G_head S (f + 1) 1 L st h = (q_G_head S f 2 L (.int (hz_n 1) :: st) h) := by rw [q_G_head, hz_w_at d_G_head_1]; rfl
theorem d_G_head_2 : decode c_G_head 2 = .ok (.iadd, 1) := by decide +kernel
theorem e_G_head_2 : q_G_head S (f + 1) 2 L (.int y :: .int x :: st) h = (q_G_head S f 3 L (.int (x + y) :: st) h) := by rw [q_G_head, hz_w_at d_G_head_2]; rfl
theorem d_G_head_3 : decode c_G_head 3 = .ok (.ireturn, 1) := by decide +kernel
theorem e_G_head_3 : q_G_head S (f + 1) 3 L st h = (S 3 L st h) := by rw [q_G_head, hz_w_at d_G_head_3]; rfl
end
abbrev q_G_tail (S : Nat → List (Option Value) → List Value → hz_H → Prop) := hz_w zCl zKT f_G n_G c_G_tail [] S
section
variable {S : Nat → List (Option Value) → List Value → hz_H → Prop} {f : Nat} {L : List (Option Value)} {st : List Value} {h : hz_H} {x y : Int32} {i j : Nat} {X Y : Int64}
theorem d_G_tail_0 : decode c_G_tail 0 = .ok (.aload_n 0, 1) := by decide +kernel
theorem e_G_tail_0 {a1 : Option Value} : q_G_tail S (f + 1) 0 [some (.ref i), a1] st h = (q_G_tail S f 1 [some (.ref i), a1] (.ref i :: st) h) := by rw [q_G_tail, hz_w_at d_G_tail_0]; rfl
theorem e_G_tail_0n {a1 : Option Value} : q_G_tail S (f + 1) 0 [some .null, a1] st h = (q_G_tail S f 1 [some .null, a1] (.null :: st) h) := by rw [q_G_tail, hz_w_at d_G_tail_0]; rfl
theorem d_G_tail_1 : decode c_G_tail 1 = .ok (.iload_n 1, 1) := by decide +kernel
theorem e_G_tail_1 {a0 : Option Value} : q_G_tail S (f + 1) 1 [a0, some (.int x)] st h = (q_G_tail S f 2 [a0, some (.int x)] (.int x :: st) h) := by rw [q_G_tail, hz_w_at d_G_tail_1]; rfl
theorem d_G_tail_2 : decode c_G_tail 2 = .ok (.iconst 1, 1) := by decide +kernel
theorem e_G_tail_2 : q_G_tail S (f + 1) 2 L st h = (q_G_tail S f 3 L (.int (hz_n 1) :: st) h) := by rw [q_G_tail, hz_w_at d_G_tail_2]; rfl
theorem d_G_tail_3 : decode c_G_tail 3 = .ok (.iadd, 1) := by decide +kernel
theorem e_G_tail_3 : q_G_tail S (f + 1) 3 L (.int y :: .int x :: st) h = (q_G_tail S f 4 L (.int (x + y) :: st) h) := by rw [q_G_tail, hz_w_at d_G_tail_3]; rfl
theorem d_G_tail_4 : decode c_G_tail 4 = .ok (.invokevirtual 70, 3) := by decide +kernel
theorem e_G_tail_4 : q_G_tail S (f + 1) 4 L st h = (S 4 L st h) := by rw [q_G_tail, hz_w_at d_G_tail_4]; rfl
theorem d_G_tail_7 : decode c_G_tail 7 = .ok (.ireturn, 1) := by decide +kernel
theorem e_G_tail_7 : q_G_tail S (f + 1) 7 L st h = (S 7 L st h) := by rw [q_G_tail, hz_w_at d_G_tail_7]; rfl
end
abbrev q_G_request (S : Nat → List (Option Value) → List Value → hz_H → Prop) := hz_w zCl zKT f_G n_G c_G_request [] S
section
variable {S : Nat → List (Option Value) → List Value → hz_H → Prop} {f : Nat} {L : List (Option Value)} {st : List Value} {h : hz_H} {x y : Int32} {i j : Nat} {X Y : Int64}
theorem d_G_request_0 : decode c_G_request 0 = .ok (.aload_n 0, 1) := by decide +kernel
theorem e_G_request_0 {a1 : Option Value} : q_G_request S (f + 1) 0 [some (.ref i), a1] st h = (q_G_request S f 1 [some (.ref i), a1] (.ref i :: st) h) := by rw [q_G_request, hz_w_at d_G_request_0]; rfl
theorem e_G_request_0n {a1 : Option Value} : q_G_request S (f + 1) 0 [some .null, a1] st h = (q_G_request S f 1 [some .null, a1] (.null :: st) h) := by rw [q_G_request, hz_w_at d_G_request_0]; rfl
theorem d_G_request_1 : decode c_G_request 1 = .ok (.getfield 24, 3) := by decide +kernel
theorem e_G_request_1 : q_G_request S (f + 1) 1 L (.ref i :: st) h = (hz_rd h i 1 3 fun v => q_G_request S f 4 L (v :: st) h) := by rw [q_G_request, hz_w_at d_G_request_1]; rfl
theorem d_G_request_4 : decode c_G_request 4 = .ok (.iload_n 1, 1) := by decide +kernel
theorem e_G_request_4 {a0 : Option Value} : q_G_request S (f + 1) 4 [a0, some (.int x)] st h = (q_G_request S f 5 [a0, some (.int x)] (.int x :: st) h) := by rw [q_G_request, hz_w_at d_G_request_4]; rfl
theorem d_G_request_5 : decode c_G_request 5 = .ok (.iaload, 1) := by decide +kernel
theorem e_G_request_5 : q_G_request S (f + 1) 5 L (.int x :: .ref i :: st) h = (hz_ea zKT hz_kI h i x fun v => q_G_request S f 6 L (v :: st) h) := by rw [q_G_request, hz_w_at d_G_request_5]; rfl
theorem d_G_request_6 : decode c_G_request 6 = .ok (.iconst 1, 1) := by decide +kernel
theorem e_G_request_6 : q_G_request S (f + 1) 6 L st h = (q_G_request S f 7 L (.int (hz_n 1) :: st) h) := by rw [q_G_request, hz_w_at d_G_request_6]; rfl
theorem d_G_request_7 : decode c_G_request 7 = .ok (.if_icmp .ne 11, 3) := by decide +kernel
theorem e_G_request_7 : q_G_request S (f + 1) 7 L (.int y :: .int x :: st) h = ((¬ x.toInt = y.toInt → q_G_request S f 18 L st h) ∧ (¬ (¬ x.toInt = y.toInt) → q_G_request S f 10 L st h)) := by rw [q_G_request, hz_w_at d_G_request_7]; rfl
theorem d_G_request_10 : decode c_G_request 10 = .ok (.aload_n 0, 1) := by decide +kernel
theorem e_G_request_10 {a1 : Option Value} : q_G_request S (f + 1) 10 [some (.ref i), a1] st h = (q_G_request S f 11 [some (.ref i), a1] (.ref i :: st) h) := by rw [q_G_request, hz_w_at d_G_request_10]; rfl
theorem e_G_request_10n {a1 : Option Value} : q_G_request S (f + 1) 10 [some .null, a1] st h = (q_G_request S f 11 [some .null, a1] (.null :: st) h) := by rw [q_G_request, hz_w_at d_G_request_10]; rfl
theorem d_G_request_11 : decode c_G_request 11 = .ok (.bipush (-4), 2) := by decide +kernel
theorem e_G_request_11 : q_G_request S (f + 1) 11 L st h = (q_G_request S f 13 L (.int (hz_n (-4)) :: st) h) := by rw [q_G_request, hz_w_at d_G_request_11]; rfl
theorem d_G_request_13 : decode c_G_request 13 = .ok (.putfield 55, 3) := by decide +kernel
theorem e_G_request_13 : q_G_request S (f + 1) 13 L (.int x :: .ref i :: st) h = (hz_wr h i 1 13 (.int x) fun h => q_G_request S f 16 L st h) := by rw [q_G_request, hz_w_at d_G_request_13]; rfl
theorem d_G_request_16 : decode c_G_request 16 = .ok (.iconst 0, 1) := by decide +kernel
theorem e_G_request_16 : q_G_request S (f + 1) 16 L st h = (q_G_request S f 17 L (.int (hz_n 0) :: st) h) := by rw [q_G_request, hz_w_at d_G_request_16]; rfl
theorem d_G_request_17 : decode c_G_request 17 = .ok (.ireturn, 1) := by decide +kernel
theorem e_G_request_17 : q_G_request S (f + 1) 17 L st h = (S 17 L st h) := by rw [q_G_request, hz_w_at d_G_request_17]; rfl
theorem d_G_request_18 : decode c_G_request 18 = .ok (.aload_n 0, 1) := by decide +kernel
theorem e_G_request_18 {a1 : Option Value} : q_G_request S (f + 1) 18 [some (.ref i), a1] st h = (q_G_request S f 19 [some (.ref i), a1] (.ref i :: st) h) := by rw [q_G_request, hz_w_at d_G_request_18]; rfl
theorem e_G_request_18n {a1 : Option Value} : q_G_request S (f + 1) 18 [some .null, a1] st h = (q_G_request S f 19 [some .null, a1] (.null :: st) h) := by rw [q_G_request, hz_w_at d_G_request_18]; rfl
theorem d_G_request_19 : decode c_G_request 19 = .ok (.getfield 24, 3) := by decide +kernel
theorem e_G_request_19 : q_G_request S (f + 1) 19 L (.ref i :: st) h = (hz_rd h i 1 3 fun v => q_G_request S f 22 L (v :: st) h) := by rw [q_G_request, hz_w_at d_G_request_19]; rfl
theorem d_G_request_22 : decode c_G_request 22 = .ok (.iload_n 1, 1) := by decide +kernel
theorem e_G_request_22 {a0 : Option Value} : q_G_request S (f + 1) 22 [a0, some (.int x)] st h = (q_G_request S f 23 [a0, some (.int x)] (.int x :: st) h) := by rw [q_G_request, hz_w_at d_G_request_22]; rfl
theorem d_G_request_23 : decode c_G_request 23 = .ok (.iaload, 1) := by decide +kernel
theorem e_G_request_23 : q_G_request S (f + 1) 23 L (.int x :: .ref i :: st) h = (hz_ea zKT hz_kI h i x fun v => q_G_request S f 24 L (v :: st) h) := by rw [q_G_request, hz_w_at d_G_request_23]; rfl
theorem d_G_request_24 : decode c_G_request 24 = .ok (.ifCond .ne 50, 3) := by decide +kernel
theorem e_G_request_24 : q_G_request S (f + 1) 24 L (.int x :: st) h = ((¬ x.toInt = 0 → q_G_request S f 74 L st h) ∧ (¬ (¬ x.toInt = 0) → q_G_request S f 27 L st h)) := by rw [q_G_request, hz_w_at d_G_request_24]; rfl
theorem d_G_request_27 : decode c_G_request 27 = .ok (.aload_n 0, 1) := by decide +kernel
theorem e_G_request_27 {a1 : Option Value} : q_G_request S (f + 1) 27 [some (.ref i), a1] st h = (q_G_request S f 28 [some (.ref i), a1] (.ref i :: st) h) := by rw [q_G_request, hz_w_at d_G_request_27]; rfl
theorem e_G_request_27n {a1 : Option Value} : q_G_request S (f + 1) 27 [some .null, a1] st h = (q_G_request S f 28 [some .null, a1] (.null :: st) h) := by rw [q_G_request, hz_w_at d_G_request_27]; rfl
theorem d_G_request_28 : decode c_G_request 28 = .ok (.getfield 24, 3) := by decide +kernel
theorem e_G_request_28 : q_G_request S (f + 1) 28 L (.ref i :: st) h = (hz_rd h i 1 3 fun v => q_G_request S f 31 L (v :: st) h) := by rw [q_G_request, hz_w_at d_G_request_28]; rfl
theorem d_G_request_31 : decode c_G_request 31 = .ok (.iload_n 1, 1) := by decide +kernel
theorem e_G_request_31 {a0 : Option Value} : q_G_request S (f + 1) 31 [a0, some (.int x)] st h = (q_G_request S f 32 [a0, some (.int x)] (.int x :: st) h) := by rw [q_G_request, hz_w_at d_G_request_31]; rfl
theorem d_G_request_32 : decode c_G_request 32 = .ok (.iconst 1, 1) := by decide +kernel
theorem e_G_request_32 : q_G_request S (f + 1) 32 L st h = (q_G_request S f 33 L (.int (hz_n 1) :: st) h) := by rw [q_G_request, hz_w_at d_G_request_32]; rfl
theorem d_G_request_33 : decode c_G_request 33 = .ok (.iastore, 1) := by decide +kernel
theorem e_G_request_33 : q_G_request S (f + 1) 33 L (.int y :: .int x :: .ref i :: st) h = (hz_es zKT hz_kI h i x (.int y) fun h => q_G_request S f 34 L st h) := by rw [q_G_request, hz_w_at d_G_request_33]; rfl
theorem d_G_request_34 : decode c_G_request 34 = .ok (.aload_n 0, 1) := by decide +kernel
theorem e_G_request_34 {a1 : Option Value} : q_G_request S (f + 1) 34 [some (.ref i), a1] st h = (q_G_request S f 35 [some (.ref i), a1] (.ref i :: st) h) := by rw [q_G_request, hz_w_at d_G_request_34]; rfl
theorem e_G_request_34n {a1 : Option Value} : q_G_request S (f + 1) 34 [some .null, a1] st h = (q_G_request S f 35 [some .null, a1] (.null :: st) h) := by rw [q_G_request, hz_w_at d_G_request_34]; rfl
theorem d_G_request_35 : decode c_G_request 35 = .ok (.getfield 33, 3) := by decide +kernel
theorem e_G_request_35 : q_G_request S (f + 1) 35 L (.ref i :: st) h = (hz_rd h i 1 6 fun v => q_G_request S f 38 L (v :: st) h) := by rw [q_G_request, hz_w_at d_G_request_35]; rfl
theorem d_G_request_38 : decode c_G_request 38 = .ok (.iload_n 1, 1) := by decide +kernel
theorem e_G_request_38 {a0 : Option Value} : q_G_request S (f + 1) 38 [a0, some (.int x)] st h = (q_G_request S f 39 [a0, some (.int x)] (.int x :: st) h) := by rw [q_G_request, hz_w_at d_G_request_38]; rfl
theorem d_G_request_39 : decode c_G_request 39 = .ok (.iload_n 1, 1) := by decide +kernel
theorem e_G_request_39 {a0 : Option Value} : q_G_request S (f + 1) 39 [a0, some (.int x)] st h = (q_G_request S f 40 [a0, some (.int x)] (.int x :: st) h) := by rw [q_G_request, hz_w_at d_G_request_39]; rfl
theorem d_G_request_40 : decode c_G_request 40 = .ok (.iconst 1, 1) := by decide +kernel
theorem e_G_request_40 : q_G_request S (f + 1) 40 L st h = (q_G_request S f 41 L (.int (hz_n 1) :: st) h) := by rw [q_G_request, hz_w_at d_G_request_40]; rfl
theorem d_G_request_41 : decode c_G_request 41 = .ok (.iadd, 1) := by decide +kernel
theorem e_G_request_41 : q_G_request S (f + 1) 41 L (.int y :: .int x :: st) h = (q_G_request S f 42 L (.int (x + y) :: st) h) := by rw [q_G_request, hz_w_at d_G_request_41]; rfl
theorem d_G_request_42 : decode c_G_request 42 = .ok (.iastore, 1) := by decide +kernel
theorem e_G_request_42 : q_G_request S (f + 1) 42 L (.int y :: .int x :: .ref i :: st) h = (hz_es zKT hz_kI h i x (.int y) fun h => q_G_request S f 43 L st h) := by rw [q_G_request, hz_w_at d_G_request_42]; rfl
theorem d_G_request_43 : decode c_G_request 43 = .ok (.aload_n 0, 1) := by decide +kernel
theorem e_G_request_43 {a1 : Option Value} : q_G_request S (f + 1) 43 [some (.ref i), a1] st h = (q_G_request S f 44 [some (.ref i), a1] (.ref i :: st) h) := by rw [q_G_request, hz_w_at d_G_request_43]; rfl
theorem e_G_request_43n {a1 : Option Value} : q_G_request S (f + 1) 43 [some .null, a1] st h = (q_G_request S f 44 [some .null, a1] (.null :: st) h) := by rw [q_G_request, hz_w_at d_G_request_43]; rfl
theorem d_G_request_44 : decode c_G_request 44 = .ok (.getfield 36, 3) := by decide +kernel
theorem e_G_request_44 : q_G_request S (f + 1) 44 L (.ref i :: st) h = (hz_rd h i 1 7 fun v => q_G_request S f 47 L (v :: st) h) := by rw [q_G_request, hz_w_at d_G_request_44]; rfl
theorem d_G_request_47 : decode c_G_request 47 = .ok (.iload_n 1, 1) := by decide +kernel
theorem e_G_request_47 {a0 : Option Value} : q_G_request S (f + 1) 47 [a0, some (.int x)] st h = (q_G_request S f 48 [a0, some (.int x)] (.int x :: st) h) := by rw [q_G_request, hz_w_at d_G_request_47]; rfl
theorem d_G_request_48 : decode c_G_request 48 = .ok (.iload_n 1, 1) := by decide +kernel
theorem e_G_request_48 {a0 : Option Value} : q_G_request S (f + 1) 48 [a0, some (.int x)] st h = (q_G_request S f 49 [a0, some (.int x)] (.int x :: st) h) := by rw [q_G_request, hz_w_at d_G_request_48]; rfl
theorem d_G_request_49 : decode c_G_request 49 = .ok (.iconst 1, 1) := by decide +kernel
theorem e_G_request_49 : q_G_request S (f + 1) 49 L st h = (q_G_request S f 50 L (.int (hz_n 1) :: st) h) := by rw [q_G_request, hz_w_at d_G_request_49]; rfl
theorem d_G_request_50 : decode c_G_request 50 = .ok (.iadd, 1) := by decide +kernel
theorem e_G_request_50 : q_G_request S (f + 1) 50 L (.int y :: .int x :: st) h = (q_G_request S f 51 L (.int (x + y) :: st) h) := by rw [q_G_request, hz_w_at d_G_request_50]; rfl
theorem d_G_request_51 : decode c_G_request 51 = .ok (.iastore, 1) := by decide +kernel
theorem e_G_request_51 : q_G_request S (f + 1) 51 L (.int y :: .int x :: .ref i :: st) h = (hz_es zKT hz_kI h i x (.int y) fun h => q_G_request S f 52 L st h) := by rw [q_G_request, hz_w_at d_G_request_51]; rfl
theorem d_G_request_52 : decode c_G_request 52 = .ok (.aload_n 0, 1) := by decide +kernel
theorem e_G_request_52 {a1 : Option Value} : q_G_request S (f + 1) 52 [some (.ref i), a1] st h = (q_G_request S f 53 [some (.ref i), a1] (.ref i :: st) h) := by rw [q_G_request, hz_w_at d_G_request_52]; rfl
theorem e_G_request_52n {a1 : Option Value} : q_G_request S (f + 1) 52 [some .null, a1] st h = (q_G_request S f 53 [some .null, a1] (.null :: st) h) := by rw [q_G_request, hz_w_at d_G_request_52]; rfl
theorem d_G_request_53 : decode c_G_request 53 = .ok (.getfield 39, 3) := by decide +kernel
theorem e_G_request_53 : q_G_request S (f + 1) 53 L (.ref i :: st) h = (hz_rd h i 1 8 fun v => q_G_request S f 56 L (v :: st) h) := by rw [q_G_request, hz_w_at d_G_request_53]; rfl
theorem d_G_request_56 : decode c_G_request 56 = .ok (.aload_n 0, 1) := by decide +kernel
theorem e_G_request_56 {a1 : Option Value} : q_G_request S (f + 1) 56 [some (.ref i), a1] st h = (q_G_request S f 57 [some (.ref i), a1] (.ref i :: st) h) := by rw [q_G_request, hz_w_at d_G_request_56]; rfl
theorem e_G_request_56n {a1 : Option Value} : q_G_request S (f + 1) 56 [some .null, a1] st h = (q_G_request S f 57 [some .null, a1] (.null :: st) h) := by rw [q_G_request, hz_w_at d_G_request_56]; rfl
theorem d_G_request_57 : decode c_G_request 57 = .ok (.getfield 42, 3) := by decide +kernel
theorem e_G_request_57 : q_G_request S (f + 1) 57 L (.ref i :: st) h = (hz_rd h i 1 9 fun v => q_G_request S f 60 L (v :: st) h) := by rw [q_G_request, hz_w_at d_G_request_57]; rfl
theorem d_G_request_60 : decode c_G_request 60 = .ok (.iload_n 1, 1) := by decide +kernel
theorem e_G_request_60 {a0 : Option Value} : q_G_request S (f + 1) 60 [a0, some (.int x)] st h = (q_G_request S f 61 [a0, some (.int x)] (.int x :: st) h) := by rw [q_G_request, hz_w_at d_G_request_60]; rfl
theorem d_G_request_61 : decode c_G_request 61 = .ok (.iastore, 1) := by decide +kernel
theorem e_G_request_61 : q_G_request S (f + 1) 61 L (.int y :: .int x :: .ref i :: st) h = (hz_es zKT hz_kI h i x (.int y) fun h => q_G_request S f 62 L st h) := by rw [q_G_request, hz_w_at d_G_request_61]; rfl
theorem d_G_request_62 : decode c_G_request 62 = .ok (.aload_n 0, 1) := by decide +kernel
theorem e_G_request_62 {a1 : Option Value} : q_G_request S (f + 1) 62 [some (.ref i), a1] st h = (q_G_request S f 63 [some (.ref i), a1] (.ref i :: st) h) := by rw [q_G_request, hz_w_at d_G_request_62]; rfl
theorem e_G_request_62n {a1 : Option Value} : q_G_request S (f + 1) 62 [some .null, a1] st h = (q_G_request S f 63 [some .null, a1] (.null :: st) h) := by rw [q_G_request, hz_w_at d_G_request_62]; rfl
theorem d_G_request_63 : decode c_G_request 63 = .ok (.dup, 1) := by decide +kernel
theorem e_G_request_63 : q_G_request S (f + 1) 63 L (.ref i :: st) h = (q_G_request S f 64 L (.ref i :: .ref i :: st) h) := by rw [q_G_request, hz_w_at d_G_request_63]; rfl
theorem e_G_request_63i : q_G_request S (f + 1) 63 L (.int x :: st) h = (q_G_request S f 64 L (.int x :: .int x :: st) h) := by rw [q_G_request, hz_w_at d_G_request_63]; rfl
theorem d_G_request_64 : decode c_G_request 64 = .ok (.getfield 42, 3) := by decide +kernel
theorem e_G_request_64 : q_G_request S (f + 1) 64 L (.ref i :: st) h = (hz_rd h i 1 9 fun v => q_G_request S f 67 L (v :: st) h) := by rw [q_G_request, hz_w_at d_G_request_64]; rfl
theorem d_G_request_67 : decode c_G_request 67 = .ok (.iconst 1, 1) := by decide +kernel
theorem e_G_request_67 : q_G_request S (f + 1) 67 L st h = (q_G_request S f 68 L (.int (hz_n 1) :: st) h) := by rw [q_G_request, hz_w_at d_G_request_67]; rfl
theorem d_G_request_68 : decode c_G_request 68 = .ok (.iadd, 1) := by decide +kernel
theorem e_G_request_68 : q_G_request S (f + 1) 68 L (.int y :: .int x :: st) h = (q_G_request S f 69 L (.int (x + y) :: st) h) := by rw [q_G_request, hz_w_at d_G_request_68]; rfl
theorem d_G_request_69 : decode c_G_request 69 = .ok (.putfield 42, 3) := by decide +kernel
theorem e_G_request_69 : q_G_request S (f + 1) 69 L (.int x :: .ref i :: st) h = (hz_wr h i 1 9 (.int x) fun h => q_G_request S f 72 L st h) := by rw [q_G_request, hz_w_at d_G_request_69]; rfl
theorem d_G_request_72 : decode c_G_request 72 = .ok (.iconst 0, 1) := by decide +kernel
theorem e_G_request_72 : q_G_request S (f + 1) 72 L st h = (q_G_request S f 73 L (.int (hz_n 0) :: st) h) := by rw [q_G_request, hz_w_at d_G_request_72]; rfl
theorem d_G_request_73 : decode c_G_request 73 = .ok (.ireturn, 1) := by decide +kernel
theorem e_G_request_73 : q_G_request S (f + 1) 73 L st h = (S 73 L st h) := by rw [q_G_request, hz_w_at d_G_request_73]; rfl
theorem d_G_request_74 : decode c_G_request 74 = .ok (.iconst 1, 1) := by decide +kernel
theorem e_G_request_74 : q_G_request S (f + 1) 74 L st h = (q_G_request S f 75 L (.int (hz_n 1) :: st) h) := by rw [q_G_request, hz_w_at d_G_request_74]; rfl
theorem d_G_request_75 : decode c_G_request 75 = .ok (.ireturn, 1) := by decide +kernel
theorem e_G_request_75 : q_G_request S (f + 1) 75 L st h = (S 75 L st h) := by rw [q_G_request, hz_w_at d_G_request_75]; rfl
end
abbrev q_G_keep (S : Nat → List (Option Value) → List Value → hz_H → Prop) := hz_w zCl zKT f_G n_G c_G_keep [] S
section
variable {S : Nat → List (Option Value) → List Value → hz_H → Prop} {f : Nat} {L : List (Option Value)} {st : List Value} {h : hz_H} {x y : Int32} {i j : Nat} {X Y : Int64}
theorem d_G_keep_0 : decode c_G_keep 0 = .ok (.aload_n 0, 1) := by decide +kernel
theorem e_G_keep_0 {a1 a2 a3 : Option Value} : q_G_keep S (f + 1) 0 [some (.ref i), a1, a2, a3] st h = (q_G_keep S f 1 [some (.ref i), a1, a2, a3] (.ref i :: st) h) := by rw [q_G_keep, hz_w_at d_G_keep_0]; rfl
theorem e_G_keep_0n {a1 a2 a3 : Option Value} : q_G_keep S (f + 1) 0 [some .null, a1, a2, a3] st h = (q_G_keep S f 1 [some .null, a1, a2, a3] (.null :: st) h) := by rw [q_G_keep, hz_w_at d_G_keep_0]; rfl
theorem d_G_keep_1 : decode c_G_keep 1 = .ok (.getfield 24, 3) := by decide +kernel
theorem e_G_keep_1 : q_G_keep S (f + 1) 1 L (.ref i :: st) h = (hz_rd h i 1 3 fun v => q_G_keep S f 4 L (v :: st) h) := by rw [q_G_keep, hz_w_at d_G_keep_1]; rfl
theorem d_G_keep_4 : decode c_G_keep 4 = .ok (.iload_n 1, 1) := by decide +kernel
theorem e_G_keep_4 {a0 a2 a3 : Option Value} : q_G_keep S (f + 1) 4 [a0, some (.int x), a2, a3] st h = (q_G_keep S f 5 [a0, some (.int x), a2, a3] (.int x :: st) h) := by rw [q_G_keep, hz_w_at d_G_keep_4]; rfl
theorem d_G_keep_5 : decode c_G_keep 5 = .ok (.iload_n 2, 1) := by decide +kernel
theorem e_G_keep_5 {a0 a1 a3 : Option Value} : q_G_keep S (f + 1) 5 [a0, a1, some (.int x), a3] st h = (q_G_keep S f 6 [a0, a1, some (.int x), a3] (.int x :: st) h) := by rw [q_G_keep, hz_w_at d_G_keep_5]; rfl
theorem d_G_keep_6 : decode c_G_keep 6 = .ok (.iastore, 1) := by decide +kernel
theorem e_G_keep_6 : q_G_keep S (f + 1) 6 L (.int y :: .int x :: .ref i :: st) h = (hz_es zKT hz_kI h i x (.int y) fun h => q_G_keep S f 7 L st h) := by rw [q_G_keep, hz_w_at d_G_keep_6]; rfl
theorem d_G_keep_7 : decode c_G_keep 7 = .ok (.aload_n 0, 1) := by decide +kernel
theorem e_G_keep_7 {a1 a2 a3 : Option Value} : q_G_keep S (f + 1) 7 [some (.ref i), a1, a2, a3] st h = (q_G_keep S f 8 [some (.ref i), a1, a2, a3] (.ref i :: st) h) := by rw [q_G_keep, hz_w_at d_G_keep_7]; rfl
theorem e_G_keep_7n {a1 a2 a3 : Option Value} : q_G_keep S (f + 1) 7 [some .null, a1, a2, a3] st h = (q_G_keep S f 8 [some .null, a1, a2, a3] (.null :: st) h) := by rw [q_G_keep, hz_w_at d_G_keep_7]; rfl
theorem d_G_keep_8 : decode c_G_keep 8 = .ok (.getfield 27, 3) := by decide +kernel
theorem e_G_keep_8 : q_G_keep S (f + 1) 8 L (.ref i :: st) h = (hz_rd h i 1 4 fun v => q_G_keep S f 11 L (v :: st) h) := by rw [q_G_keep, hz_w_at d_G_keep_8]; rfl
theorem d_G_keep_11 : decode c_G_keep 11 = .ok (.iload_n 1, 1) := by decide +kernel
theorem e_G_keep_11 {a0 a2 a3 : Option Value} : q_G_keep S (f + 1) 11 [a0, some (.int x), a2, a3] st h = (q_G_keep S f 12 [a0, some (.int x), a2, a3] (.int x :: st) h) := by rw [q_G_keep, hz_w_at d_G_keep_11]; rfl
theorem d_G_keep_12 : decode c_G_keep 12 = .ok (.iload_n 3, 1) := by decide +kernel
theorem e_G_keep_12 {a0 a1 a2 : Option Value} : q_G_keep S (f + 1) 12 [a0, a1, a2, some (.int x)] st h = (q_G_keep S f 13 [a0, a1, a2, some (.int x)] (.int x :: st) h) := by rw [q_G_keep, hz_w_at d_G_keep_12]; rfl
theorem d_G_keep_13 : decode c_G_keep 13 = .ok (.iastore, 1) := by decide +kernel
theorem e_G_keep_13 : q_G_keep S (f + 1) 13 L (.int y :: .int x :: .ref i :: st) h = (hz_es zKT hz_kI h i x (.int y) fun h => q_G_keep S f 14 L st h) := by rw [q_G_keep, hz_w_at d_G_keep_13]; rfl
theorem d_G_keep_14 : decode c_G_keep 14 = .ok (.aload_n 0, 1) := by decide +kernel
theorem e_G_keep_14 {a1 a2 a3 : Option Value} : q_G_keep S (f + 1) 14 [some (.ref i), a1, a2, a3] st h = (q_G_keep S f 15 [some (.ref i), a1, a2, a3] (.ref i :: st) h) := by rw [q_G_keep, hz_w_at d_G_keep_14]; rfl
theorem e_G_keep_14n {a1 a2 a3 : Option Value} : q_G_keep S (f + 1) 14 [some .null, a1, a2, a3] st h = (q_G_keep S f 15 [some .null, a1, a2, a3] (.null :: st) h) := by rw [q_G_keep, hz_w_at d_G_keep_14]; rfl
theorem d_G_keep_15 : decode c_G_keep 15 = .ok (.dup, 1) := by decide +kernel
theorem e_G_keep_15 : q_G_keep S (f + 1) 15 L (.ref i :: st) h = (q_G_keep S f 16 L (.ref i :: .ref i :: st) h) := by rw [q_G_keep, hz_w_at d_G_keep_15]; rfl
theorem e_G_keep_15i : q_G_keep S (f + 1) 15 L (.int x :: st) h = (q_G_keep S f 16 L (.int x :: .int x :: st) h) := by rw [q_G_keep, hz_w_at d_G_keep_15]; rfl
theorem d_G_keep_16 : decode c_G_keep 16 = .ok (.getfield 42, 3) := by decide +kernel
theorem e_G_keep_16 : q_G_keep S (f + 1) 16 L (.ref i :: st) h = (hz_rd h i 1 9 fun v => q_G_keep S f 19 L (v :: st) h) := by rw [q_G_keep, hz_w_at d_G_keep_16]; rfl
theorem d_G_keep_19 : decode c_G_keep 19 = .ok (.iconst 1, 1) := by decide +kernel
theorem e_G_keep_19 : q_G_keep S (f + 1) 19 L st h = (q_G_keep S f 20 L (.int (hz_n 1) :: st) h) := by rw [q_G_keep, hz_w_at d_G_keep_19]; rfl
theorem d_G_keep_20 : decode c_G_keep 20 = .ok (.isub, 1) := by decide +kernel
theorem e_G_keep_20 : q_G_keep S (f + 1) 20 L (.int y :: .int x :: st) h = (q_G_keep S f 21 L (.int (x - y) :: st) h) := by rw [q_G_keep, hz_w_at d_G_keep_20]; rfl
theorem d_G_keep_21 : decode c_G_keep 21 = .ok (.putfield 42, 3) := by decide +kernel
theorem e_G_keep_21 : q_G_keep S (f + 1) 21 L (.int x :: .ref i :: st) h = (hz_wr h i 1 9 (.int x) fun h => q_G_keep S f 24 L st h) := by rw [q_G_keep, hz_w_at d_G_keep_21]; rfl
theorem d_G_keep_24 : decode c_G_keep 24 = .ok (.return_, 1) := by decide +kernel
theorem e_G_keep_24 : q_G_keep S (f + 1) 24 L st h = (S 24 L st h) := by rw [q_G_keep, hz_w_at d_G_keep_24]; rfl
end
abbrev q_G_keepAs (S : Nat → List (Option Value) → List Value → hz_H → Prop) := hz_w zCl zKT f_G n_G c_G_keepAs [] S
section
variable {S : Nat → List (Option Value) → List Value → hz_H → Prop} {f : Nat} {L : List (Option Value)} {st : List Value} {h : hz_H} {x y : Int32} {i j : Nat} {X Y : Int64}
theorem d_G_keepAs_0 : decode c_G_keepAs 0 = .ok (.aload_n 0, 1) := by decide +kernel
theorem e_G_keepAs_0 {a1 a2 : Option Value} : q_G_keepAs S (f + 1) 0 [some (.ref i), a1, a2] st h = (q_G_keepAs S f 1 [some (.ref i), a1, a2] (.ref i :: st) h) := by rw [q_G_keepAs, hz_w_at d_G_keepAs_0]; rfl
theorem e_G_keepAs_0n {a1 a2 : Option Value} : q_G_keepAs S (f + 1) 0 [some .null, a1, a2] st h = (q_G_keepAs S f 1 [some .null, a1, a2] (.null :: st) h) := by rw [q_G_keepAs, hz_w_at d_G_keepAs_0]; rfl
theorem d_G_keepAs_1 : decode c_G_keepAs 1 = .ok (.iload_n 2, 1) := by decide +kernel
theorem e_G_keepAs_1 {a0 a1 : Option Value} : q_G_keepAs S (f + 1) 1 [a0, a1, some (.int x)] st h = (q_G_keepAs S f 2 [a0, a1, some (.int x)] (.int x :: st) h) := by rw [q_G_keepAs, hz_w_at d_G_keepAs_1]; rfl
theorem d_G_keepAs_2 : decode c_G_keepAs 2 = .ok (.invokevirtual 61, 3) := by decide +kernel
theorem e_G_keepAs_2 : q_G_keepAs S (f + 1) 2 L st h = (S 2 L st h) := by rw [q_G_keepAs, hz_w_at d_G_keepAs_2]; rfl
theorem d_G_keepAs_5 : decode c_G_keepAs 5 = .ok (.ifCond .eq 20, 3) := by decide +kernel
theorem e_G_keepAs_5 : q_G_keepAs S (f + 1) 5 L (.int x :: st) h = ((x.toInt = 0 → q_G_keepAs S f 25 L st h) ∧ (¬ (x.toInt = 0) → q_G_keepAs S f 8 L st h)) := by rw [q_G_keepAs, hz_w_at d_G_keepAs_5]; rfl
theorem d_G_keepAs_8 : decode c_G_keepAs 8 = .ok (.aload_n 0, 1) := by decide +kernel
theorem e_G_keepAs_8 {a1 a2 : Option Value} : q_G_keepAs S (f + 1) 8 [some (.ref i), a1, a2] st h = (q_G_keepAs S f 9 [some (.ref i), a1, a2] (.ref i :: st) h) := by rw [q_G_keepAs, hz_w_at d_G_keepAs_8]; rfl
theorem e_G_keepAs_8n {a1 a2 : Option Value} : q_G_keepAs S (f + 1) 8 [some .null, a1, a2] st h = (q_G_keepAs S f 9 [some .null, a1, a2] (.null :: st) h) := by rw [q_G_keepAs, hz_w_at d_G_keepAs_8]; rfl
theorem d_G_keepAs_9 : decode c_G_keepAs 9 = .ok (.iload_n 1, 1) := by decide +kernel
theorem e_G_keepAs_9 {a0 a2 : Option Value} : q_G_keepAs S (f + 1) 9 [a0, some (.int x), a2] st h = (q_G_keepAs S f 10 [a0, some (.int x), a2] (.int x :: st) h) := by rw [q_G_keepAs, hz_w_at d_G_keepAs_9]; rfl
theorem d_G_keepAs_10 : decode c_G_keepAs 10 = .ok (.aload_n 0, 1) := by decide +kernel
theorem e_G_keepAs_10 {a1 a2 : Option Value} : q_G_keepAs S (f + 1) 10 [some (.ref i), a1, a2] st h = (q_G_keepAs S f 11 [some (.ref i), a1, a2] (.ref i :: st) h) := by rw [q_G_keepAs, hz_w_at d_G_keepAs_10]; rfl
theorem e_G_keepAs_10n {a1 a2 : Option Value} : q_G_keepAs S (f + 1) 10 [some .null, a1, a2] st h = (q_G_keepAs S f 11 [some .null, a1, a2] (.null :: st) h) := by rw [q_G_keepAs, hz_w_at d_G_keepAs_10]; rfl
theorem d_G_keepAs_11 : decode c_G_keepAs 11 = .ok (.getfield 24, 3) := by decide +kernel
theorem e_G_keepAs_11 : q_G_keepAs S (f + 1) 11 L (.ref i :: st) h = (hz_rd h i 1 3 fun v => q_G_keepAs S f 14 L (v :: st) h) := by rw [q_G_keepAs, hz_w_at d_G_keepAs_11]; rfl
theorem d_G_keepAs_14 : decode c_G_keepAs 14 = .ok (.iload_n 2, 1) := by decide +kernel
theorem e_G_keepAs_14 {a0 a1 : Option Value} : q_G_keepAs S (f + 1) 14 [a0, a1, some (.int x)] st h = (q_G_keepAs S f 15 [a0, a1, some (.int x)] (.int x :: st) h) := by rw [q_G_keepAs, hz_w_at d_G_keepAs_14]; rfl
theorem d_G_keepAs_15 : decode c_G_keepAs 15 = .ok (.iaload, 1) := by decide +kernel
theorem e_G_keepAs_15 : q_G_keepAs S (f + 1) 15 L (.int x :: .ref i :: st) h = (hz_ea zKT hz_kI h i x fun v => q_G_keepAs S f 16 L (v :: st) h) := by rw [q_G_keepAs, hz_w_at d_G_keepAs_15]; rfl
theorem d_G_keepAs_16 : decode c_G_keepAs 16 = .ok (.aload_n 0, 1) := by decide +kernel
theorem e_G_keepAs_16 {a1 a2 : Option Value} : q_G_keepAs S (f + 1) 16 [some (.ref i), a1, a2] st h = (q_G_keepAs S f 17 [some (.ref i), a1, a2] (.ref i :: st) h) := by rw [q_G_keepAs, hz_w_at d_G_keepAs_16]; rfl
theorem e_G_keepAs_16n {a1 a2 : Option Value} : q_G_keepAs S (f + 1) 16 [some .null, a1, a2] st h = (q_G_keepAs S f 17 [some .null, a1, a2] (.null :: st) h) := by rw [q_G_keepAs, hz_w_at d_G_keepAs_16]; rfl
theorem d_G_keepAs_17 : decode c_G_keepAs 17 = .ok (.getfield 27, 3) := by decide +kernel
theorem e_G_keepAs_17 : q_G_keepAs S (f + 1) 17 L (.ref i :: st) h = (hz_rd h i 1 4 fun v => q_G_keepAs S f 20 L (v :: st) h) := by rw [q_G_keepAs, hz_w_at d_G_keepAs_17]; rfl
theorem d_G_keepAs_20 : decode c_G_keepAs 20 = .ok (.iload_n 2, 1) := by decide +kernel
theorem e_G_keepAs_20 {a0 a1 : Option Value} : q_G_keepAs S (f + 1) 20 [a0, a1, some (.int x)] st h = (q_G_keepAs S f 21 [a0, a1, some (.int x)] (.int x :: st) h) := by rw [q_G_keepAs, hz_w_at d_G_keepAs_20]; rfl
theorem d_G_keepAs_21 : decode c_G_keepAs 21 = .ok (.iaload, 1) := by decide +kernel
theorem e_G_keepAs_21 : q_G_keepAs S (f + 1) 21 L (.int x :: .ref i :: st) h = (hz_ea zKT hz_kI h i x fun v => q_G_keepAs S f 22 L (v :: st) h) := by rw [q_G_keepAs, hz_w_at d_G_keepAs_21]; rfl
theorem d_G_keepAs_22 : decode c_G_keepAs 22 = .ok (.invokevirtual 74, 3) := by decide +kernel
theorem e_G_keepAs_22 : q_G_keepAs S (f + 1) 22 L st h = (S 22 L st h) := by rw [q_G_keepAs, hz_w_at d_G_keepAs_22]; rfl
theorem d_G_keepAs_25 : decode c_G_keepAs 25 = .ok (.return_, 1) := by decide +kernel
theorem e_G_keepAs_25 : q_G_keepAs S (f + 1) 25 L st h = (S 25 L st h) := by rw [q_G_keepAs, hz_w_at d_G_keepAs_25]; rfl
end
abbrev q_G_lookAt (S : Nat → List (Option Value) → List Value → hz_H → Prop) := hz_w zCl zKT f_G n_G c_G_lookAt [] S
section
variable {S : Nat → List (Option Value) → List Value → hz_H → Prop} {f : Nat} {L : List (Option Value)} {st : List Value} {h : hz_H} {x y : Int32} {i j : Nat} {X Y : Int64}
theorem d_G_lookAt_0 : decode c_G_lookAt 0 = .ok (.iload_n 1, 1) := by decide +kernel
theorem e_G_lookAt_0 {a0 a2 a3 a4 : Option Value} : q_G_lookAt S (f + 1) 0 [a0, some (.int x), a2, a3, a4] st h = (q_G_lookAt S f 1 [a0, some (.int x), a2, a3, a4] (.int x :: st) h) := by rw [q_G_lookAt, hz_w_at d_G_lookAt_0]; rfl
theorem d_G_lookAt_1 : decode c_G_lookAt 1 = .ok (.sipush 2000, 3) := by decide +kernel
theorem e_G_lookAt_1 : q_G_lookAt S (f + 1) 1 L st h = (q_G_lookAt S f 4 L (.int (hz_n 2000) :: st) h) := by rw [q_G_lookAt, hz_w_at d_G_lookAt_1]; rfl
theorem d_G_lookAt_4 : decode c_G_lookAt 4 = .ok (.if_icmp .ne 13, 3) := by decide +kernel
theorem e_G_lookAt_4 : q_G_lookAt S (f + 1) 4 L (.int y :: .int x :: st) h = ((¬ x.toInt = y.toInt → q_G_lookAt S f 17 L st h) ∧ (¬ (¬ x.toInt = y.toInt) → q_G_lookAt S f 7 L st h)) := by rw [q_G_lookAt, hz_w_at d_G_lookAt_4]; rfl
theorem d_G_lookAt_7 : decode c_G_lookAt 7 = .ok (.aload_n 0, 1) := by decide +kernel
theorem e_G_lookAt_7 {a1 a2 a3 a4 : Option Value} : q_G_lookAt S (f + 1) 7 [some (.ref i), a1, a2, a3, a4] st h = (q_G_lookAt S f 8 [some (.ref i), a1, a2, a3, a4] (.ref i :: st) h) := by rw [q_G_lookAt, hz_w_at d_G_lookAt_7]; rfl
theorem e_G_lookAt_7n {a1 a2 a3 a4 : Option Value} : q_G_lookAt S (f + 1) 7 [some .null, a1, a2, a3, a4] st h = (q_G_lookAt S f 8 [some .null, a1, a2, a3, a4] (.null :: st) h) := by rw [q_G_lookAt, hz_w_at d_G_lookAt_7]; rfl
theorem d_G_lookAt_8 : decode c_G_lookAt 8 = .ok (.iload_n 1, 1) := by decide +kernel
theorem e_G_lookAt_8 {a0 a2 a3 a4 : Option Value} : q_G_lookAt S (f + 1) 8 [a0, some (.int x), a2, a3, a4] st h = (q_G_lookAt S f 9 [a0, some (.int x), a2, a3, a4] (.int x :: st) h) := by rw [q_G_lookAt, hz_w_at d_G_lookAt_8]; rfl
theorem d_G_lookAt_9 : decode c_G_lookAt 9 = .ok (.aload_n 0, 1) := by decide +kernel
theorem e_G_lookAt_9 {a1 a2 a3 a4 : Option Value} : q_G_lookAt S (f + 1) 9 [some (.ref i), a1, a2, a3, a4] st h = (q_G_lookAt S f 10 [some (.ref i), a1, a2, a3, a4] (.ref i :: st) h) := by rw [q_G_lookAt, hz_w_at d_G_lookAt_9]; rfl
theorem e_G_lookAt_9n {a1 a2 a3 a4 : Option Value} : q_G_lookAt S (f + 1) 9 [some .null, a1, a2, a3, a4] st h = (q_G_lookAt S f 10 [some .null, a1, a2, a3, a4] (.null :: st) h) := by rw [q_G_lookAt, hz_w_at d_G_lookAt_9]; rfl
theorem d_G_lookAt_10 : decode c_G_lookAt 10 = .ok (.getfield 46, 3) := by decide +kernel
theorem e_G_lookAt_10 : q_G_lookAt S (f + 1) 10 L (.ref i :: st) h = (hz_rd h i 1 10 fun v => q_G_lookAt S f 13 L (v :: st) h) := by rw [q_G_lookAt, hz_w_at d_G_lookAt_10]; rfl
theorem d_G_lookAt_13 : decode c_G_lookAt 13 = .ok (.invokevirtual 78, 3) := by decide +kernel
theorem e_G_lookAt_13 : q_G_lookAt S (f + 1) 13 L st h = (S 13 L st h) := by rw [q_G_lookAt, hz_w_at d_G_lookAt_13]; rfl
theorem d_G_lookAt_16 : decode c_G_lookAt 16 = .ok (.return_, 1) := by decide +kernel
theorem e_G_lookAt_16 : q_G_lookAt S (f + 1) 16 L st h = (S 16 L st h) := by rw [q_G_lookAt, hz_w_at d_G_lookAt_16]; rfl
theorem d_G_lookAt_17 : decode c_G_lookAt 17 = .ok (.aload_n 0, 1) := by decide +kernel
theorem e_G_lookAt_17 {a1 a2 a3 a4 : Option Value} : q_G_lookAt S (f + 1) 17 [some (.ref i), a1, a2, a3, a4] st h = (q_G_lookAt S f 18 [some (.ref i), a1, a2, a3, a4] (.ref i :: st) h) := by rw [q_G_lookAt, hz_w_at d_G_lookAt_17]; rfl
theorem e_G_lookAt_17n {a1 a2 a3 a4 : Option Value} : q_G_lookAt S (f + 1) 17 [some .null, a1, a2, a3, a4] st h = (q_G_lookAt S f 18 [some .null, a1, a2, a3, a4] (.null :: st) h) := by rw [q_G_lookAt, hz_w_at d_G_lookAt_17]; rfl
theorem d_G_lookAt_18 : decode c_G_lookAt 18 = .ok (.getfield 17, 3) := by decide +kernel
theorem e_G_lookAt_18 : q_G_lookAt S (f + 1) 18 L (.ref i :: st) h = (hz_rd h i 1 1 fun v => q_G_lookAt S f 21 L (v :: st) h) := by rw [q_G_lookAt, hz_w_at d_G_lookAt_18]; rfl
theorem d_G_lookAt_21 : decode c_G_lookAt 21 = .ok (.iload_n 1, 1) := by decide +kernel
theorem e_G_lookAt_21 {a0 a2 a3 a4 : Option Value} : q_G_lookAt S (f + 1) 21 [a0, some (.int x), a2, a3, a4] st h = (q_G_lookAt S f 22 [a0, some (.int x), a2, a3, a4] (.int x :: st) h) := by rw [q_G_lookAt, hz_w_at d_G_lookAt_21]; rfl
theorem d_G_lookAt_22 : decode c_G_lookAt 22 = .ok (.bipush 40, 2) := by decide +kernel
theorem e_G_lookAt_22 : q_G_lookAt S (f + 1) 22 L st h = (q_G_lookAt S f 24 L (.int (hz_n 40) :: st) h) := by rw [q_G_lookAt, hz_w_at d_G_lookAt_22]; rfl
theorem d_G_lookAt_24 : decode c_G_lookAt 24 = .ok (.idiv, 1) := by decide +kernel
theorem e_G_lookAt_24 : q_G_lookAt S (f + 1) 24 L (.int y :: .int x :: st) h = (¬ y.toInt = 0 ∧ q_G_lookAt S f 25 L (.int (x / y) :: st) h) := by rw [q_G_lookAt, hz_w_at d_G_lookAt_24]; rfl
theorem d_G_lookAt_25 : decode c_G_lookAt 25 = .ok (.aaload, 1) := by decide +kernel
theorem e_G_lookAt_25 : q_G_lookAt S (f + 1) 25 L (.int x :: .ref i :: st) h = (hz_ea zKT hz_kA h i x fun v => q_G_lookAt S f 26 L (v :: st) h) := by rw [q_G_lookAt, hz_w_at d_G_lookAt_25]; rfl
theorem d_G_lookAt_26 : decode c_G_lookAt 26 = .ok (.astore_n 2, 1) := by decide +kernel
theorem e_G_lookAt_26 {a0 a1 a2 a3 a4 : Option Value} : q_G_lookAt S (f + 1) 26 [a0, a1, a2, a3, a4] (.ref i :: st) h = (q_G_lookAt S f 27 [a0, a1, some (.ref i), a3, a4] st h) := by rw [q_G_lookAt, hz_w_at d_G_lookAt_26]; rfl
theorem e_G_lookAt_26n {a0 a1 a2 a3 a4 : Option Value} : q_G_lookAt S (f + 1) 26 [a0, a1, a2, a3, a4] (.null :: st) h = (q_G_lookAt S f 27 [a0, a1, some .null, a3, a4] st h) := by rw [q_G_lookAt, hz_w_at d_G_lookAt_26]; rfl
theorem d_G_lookAt_27 : decode c_G_lookAt 27 = .ok (.iload_n 1, 1) := by decide +kernel
theorem e_G_lookAt_27 {a0 a2 a3 a4 : Option Value} : q_G_lookAt S (f + 1) 27 [a0, some (.int x), a2, a3, a4] st h = (q_G_lookAt S f 28 [a0, some (.int x), a2, a3, a4] (.int x :: st) h) := by rw [q_G_lookAt, hz_w_at d_G_lookAt_27]; rfl
theorem d_G_lookAt_28 : decode c_G_lookAt 28 = .ok (.bipush 40, 2) := by decide +kernel
theorem e_G_lookAt_28 : q_G_lookAt S (f + 1) 28 L st h = (q_G_lookAt S f 30 L (.int (hz_n 40) :: st) h) := by rw [q_G_lookAt, hz_w_at d_G_lookAt_28]; rfl
theorem d_G_lookAt_30 : decode c_G_lookAt 30 = .ok (.irem, 1) := by decide +kernel
theorem e_G_lookAt_30 : q_G_lookAt S (f + 1) 30 L (.int y :: .int x :: st) h = (¬ y.toInt = 0 ∧ q_G_lookAt S f 31 L (.int (x - x / y * y) :: st) h) := by rw [q_G_lookAt, hz_w_at d_G_lookAt_30]; rfl
theorem d_G_lookAt_31 : decode c_G_lookAt 31 = .ok (.istore_n 3, 1) := by decide +kernel
theorem e_G_lookAt_31 {a0 a1 a2 a3 a4 : Option Value} : q_G_lookAt S (f + 1) 31 [a0, a1, a2, a3, a4] (.int x :: st) h = (q_G_lookAt S f 32 [a0, a1, a2, some (.int x), a4] st h) := by rw [q_G_lookAt, hz_w_at d_G_lookAt_31]; rfl
theorem d_G_lookAt_32 : decode c_G_lookAt 32 = .ok (.aload_n 2, 1) := by decide +kernel
theorem e_G_lookAt_32 {a0 a1 a3 a4 : Option Value} : q_G_lookAt S (f + 1) 32 [a0, a1, some (.ref i), a3, a4] st h = (q_G_lookAt S f 33 [a0, a1, some (.ref i), a3, a4] (.ref i :: st) h) := by rw [q_G_lookAt, hz_w_at d_G_lookAt_32]; rfl
theorem e_G_lookAt_32n {a0 a1 a3 a4 : Option Value} : q_G_lookAt S (f + 1) 32 [a0, a1, some .null, a3, a4] st h = (q_G_lookAt S f 33 [a0, a1, some .null, a3, a4] (.null :: st) h) := by rw [q_G_lookAt, hz_w_at d_G_lookAt_32]; rfl
theorem d_G_lookAt_33 : decode c_G_lookAt 33 = .ok (.getfield 82, 3) := by decide +kernel
theorem e_G_lookAt_33 : q_G_lookAt S (f + 1) 33 L (.ref i :: st) h = (hz_rd h i 0 0 fun v => q_G_lookAt S f 36 L (v :: st) h) := by rw [q_G_lookAt, hz_w_at d_G_lookAt_33]; rfl
theorem d_G_lookAt_36 : decode c_G_lookAt 36 = .ok (.iload_n 3, 1) := by decide +kernel
theorem e_G_lookAt_36 {a0 a1 a2 a4 : Option Value} : q_G_lookAt S (f + 1) 36 [a0, a1, a2, some (.int x), a4] st h = (q_G_lookAt S f 37 [a0, a1, a2, some (.int x), a4] (.int x :: st) h) := by rw [q_G_lookAt, hz_w_at d_G_lookAt_36]; rfl
theorem d_G_lookAt_37 : decode c_G_lookAt 37 = .ok (.caload, 1) := by decide +kernel
theorem e_G_lookAt_37 : q_G_lookAt S (f + 1) 37 L (.int x :: .ref i :: st) h = (hz_ea zKT hz_kC h i x fun v => q_G_lookAt S f 38 L (v :: st) h) := by rw [q_G_lookAt, hz_w_at d_G_lookAt_37]; rfl
theorem d_G_lookAt_38 : decode c_G_lookAt 38 = .ok (.istore 4, 2) := by decide +kernel
theorem e_G_lookAt_38 {a0 a1 a2 a3 a4 : Option Value} : q_G_lookAt S (f + 1) 38 [a0, a1, a2, a3, a4] (.int x :: st) h = (q_G_lookAt S f 40 [a0, a1, a2, a3, some (.int x)] st h) := by rw [q_G_lookAt, hz_w_at d_G_lookAt_38]; rfl
theorem d_G_lookAt_40 : decode c_G_lookAt 40 = .ok (.iload 4, 2) := by decide +kernel
theorem e_G_lookAt_40 {a0 a1 a2 a3 : Option Value} : q_G_lookAt S (f + 1) 40 [a0, a1, a2, a3, some (.int x)] st h = (q_G_lookAt S f 42 [a0, a1, a2, a3, some (.int x)] (.int x :: st) h) := by rw [q_G_lookAt, hz_w_at d_G_lookAt_40]; rfl
theorem d_G_lookAt_42 : decode c_G_lookAt 42 = .ok (.invokestatic 86, 3) := by decide +kernel
theorem e_G_lookAt_42 : q_G_lookAt S (f + 1) 42 L st h = (S 42 L st h) := by rw [q_G_lookAt, hz_w_at d_G_lookAt_42]; rfl
theorem d_G_lookAt_45 : decode c_G_lookAt 45 = .ok (.ifCond .eq 17, 3) := by decide +kernel
theorem e_G_lookAt_45 : q_G_lookAt S (f + 1) 45 L (.int x :: st) h = ((x.toInt = 0 → q_G_lookAt S f 62 L st h) ∧ (¬ (x.toInt = 0) → q_G_lookAt S f 48 L st h)) := by rw [q_G_lookAt, hz_w_at d_G_lookAt_45]; rfl
theorem d_G_lookAt_48 : decode c_G_lookAt 48 = .ok (.aload_n 0, 1) := by decide +kernel
theorem e_G_lookAt_48 {a1 a2 a3 a4 : Option Value} : q_G_lookAt S (f + 1) 48 [some (.ref i), a1, a2, a3, a4] st h = (q_G_lookAt S f 49 [some (.ref i), a1, a2, a3, a4] (.ref i :: st) h) := by rw [q_G_lookAt, hz_w_at d_G_lookAt_48]; rfl
theorem e_G_lookAt_48n {a1 a2 a3 a4 : Option Value} : q_G_lookAt S (f + 1) 48 [some .null, a1, a2, a3, a4] st h = (q_G_lookAt S f 49 [some .null, a1, a2, a3, a4] (.null :: st) h) := by rw [q_G_lookAt, hz_w_at d_G_lookAt_48]; rfl
theorem d_G_lookAt_49 : decode c_G_lookAt 49 = .ok (.iload_n 1, 1) := by decide +kernel
theorem e_G_lookAt_49 {a0 a2 a3 a4 : Option Value} : q_G_lookAt S (f + 1) 49 [a0, some (.int x), a2, a3, a4] st h = (q_G_lookAt S f 50 [a0, some (.int x), a2, a3, a4] (.int x :: st) h) := by rw [q_G_lookAt, hz_w_at d_G_lookAt_49]; rfl
theorem d_G_lookAt_50 : decode c_G_lookAt 50 = .ok (.iconst 2, 1) := by decide +kernel
theorem e_G_lookAt_50 : q_G_lookAt S (f + 1) 50 L st h = (q_G_lookAt S f 51 L (.int (hz_n 2) :: st) h) := by rw [q_G_lookAt, hz_w_at d_G_lookAt_50]; rfl
theorem d_G_lookAt_51 : decode c_G_lookAt 51 = .ok (.iload 4, 2) := by decide +kernel
theorem e_G_lookAt_51 {a0 a1 a2 a3 : Option Value} : q_G_lookAt S (f + 1) 51 [a0, a1, a2, a3, some (.int x)] st h = (q_G_lookAt S f 53 [a0, a1, a2, a3, some (.int x)] (.int x :: st) h) := by rw [q_G_lookAt, hz_w_at d_G_lookAt_51]; rfl
theorem d_G_lookAt_53 : decode c_G_lookAt 53 = .ok (.bipush 48, 2) := by decide +kernel
theorem e_G_lookAt_53 : q_G_lookAt S (f + 1) 53 L st h = (q_G_lookAt S f 55 L (.int (hz_n 48) :: st) h) := by rw [q_G_lookAt, hz_w_at d_G_lookAt_53]; rfl
theorem d_G_lookAt_55 : decode c_G_lookAt 55 = .ok (.isub, 1) := by decide +kernel
theorem e_G_lookAt_55 : q_G_lookAt S (f + 1) 55 L (.int y :: .int x :: st) h = (q_G_lookAt S f 56 L (.int (x - y) :: st) h) := by rw [q_G_lookAt, hz_w_at d_G_lookAt_55]; rfl
theorem d_G_lookAt_56 : decode c_G_lookAt 56 = .ok (.invokevirtual 74, 3) := by decide +kernel
theorem e_G_lookAt_56 : q_G_lookAt S (f + 1) 56 L st h = (S 56 L st h) := by rw [q_G_lookAt, hz_w_at d_G_lookAt_56]; rfl
theorem d_G_lookAt_59 : decode c_G_lookAt 59 = .ok (.goto 174, 3) := by decide +kernel
theorem e_G_lookAt_59 : q_G_lookAt S (f + 1) 59 L st h = (q_G_lookAt S f 233 L st h) := by rw [q_G_lookAt, hz_w_at d_G_lookAt_59]; rfl
theorem d_G_lookAt_62 : decode c_G_lookAt 62 = .ok (.iload 4, 2) := by decide +kernel
theorem e_G_lookAt_62 {a0 a1 a2 a3 : Option Value} : q_G_lookAt S (f + 1) 62 [a0, a1, a2, a3, some (.int x)] st h = (q_G_lookAt S f 64 [a0, a1, a2, a3, some (.int x)] (.int x :: st) h) := by rw [q_G_lookAt, hz_w_at d_G_lookAt_62]; rfl
theorem d_G_lookAt_64 : decode c_G_lookAt 64 = .ok (.invokestatic 90, 3) := by decide +kernel
theorem e_G_lookAt_64 : q_G_lookAt S (f + 1) 64 L st h = (S 64 L st h) := by rw [q_G_lookAt, hz_w_at d_G_lookAt_64]; rfl
theorem d_G_lookAt_67 : decode c_G_lookAt 67 = .ok (.ifCond .eq 26, 3) := by decide +kernel
theorem e_G_lookAt_67 : q_G_lookAt S (f + 1) 67 L (.int x :: st) h = ((x.toInt = 0 → q_G_lookAt S f 93 L st h) ∧ (¬ (x.toInt = 0) → q_G_lookAt S f 70 L st h)) := by rw [q_G_lookAt, hz_w_at d_G_lookAt_67]; rfl
theorem d_G_lookAt_70 : decode c_G_lookAt 70 = .ok (.aload_n 0, 1) := by decide +kernel
theorem e_G_lookAt_70 {a1 a2 a3 a4 : Option Value} : q_G_lookAt S (f + 1) 70 [some (.ref i), a1, a2, a3, a4] st h = (q_G_lookAt S f 71 [some (.ref i), a1, a2, a3, a4] (.ref i :: st) h) := by rw [q_G_lookAt, hz_w_at d_G_lookAt_70]; rfl
theorem e_G_lookAt_70n {a1 a2 a3 a4 : Option Value} : q_G_lookAt S (f + 1) 70 [some .null, a1, a2, a3, a4] st h = (q_G_lookAt S f 71 [some .null, a1, a2, a3, a4] (.null :: st) h) := by rw [q_G_lookAt, hz_w_at d_G_lookAt_70]; rfl
theorem d_G_lookAt_71 : decode c_G_lookAt 71 = .ok (.iload_n 1, 1) := by decide +kernel
theorem e_G_lookAt_71 {a0 a2 a3 a4 : Option Value} : q_G_lookAt S (f + 1) 71 [a0, some (.int x), a2, a3, a4] st h = (q_G_lookAt S f 72 [a0, some (.int x), a2, a3, a4] (.int x :: st) h) := by rw [q_G_lookAt, hz_w_at d_G_lookAt_71]; rfl
theorem d_G_lookAt_72 : decode c_G_lookAt 72 = .ok (.aload_n 0, 1) := by decide +kernel
theorem e_G_lookAt_72 {a1 a2 a3 a4 : Option Value} : q_G_lookAt S (f + 1) 72 [some (.ref i), a1, a2, a3, a4] st h = (q_G_lookAt S f 73 [some (.ref i), a1, a2, a3, a4] (.ref i :: st) h) := by rw [q_G_lookAt, hz_w_at d_G_lookAt_72]; rfl
theorem e_G_lookAt_72n {a1 a2 a3 a4 : Option Value} : q_G_lookAt S (f + 1) 72 [some .null, a1, a2, a3, a4] st h = (q_G_lookAt S f 73 [some .null, a1, a2, a3, a4] (.null :: st) h) := by rw [q_G_lookAt, hz_w_at d_G_lookAt_72]; rfl
theorem d_G_lookAt_73 : decode c_G_lookAt 73 = .ok (.getfield 27, 3) := by decide +kernel
theorem e_G_lookAt_73 : q_G_lookAt S (f + 1) 73 L (.ref i :: st) h = (hz_rd h i 1 4 fun v => q_G_lookAt S f 76 L (v :: st) h) := by rw [q_G_lookAt, hz_w_at d_G_lookAt_73]; rfl
theorem d_G_lookAt_76 : decode c_G_lookAt 76 = .ok (.iload_n 1, 1) := by decide +kernel
theorem e_G_lookAt_76 {a0 a2 a3 a4 : Option Value} : q_G_lookAt S (f + 1) 76 [a0, some (.int x), a2, a3, a4] st h = (q_G_lookAt S f 77 [a0, some (.int x), a2, a3, a4] (.int x :: st) h) := by rw [q_G_lookAt, hz_w_at d_G_lookAt_76]; rfl
theorem d_G_lookAt_77 : decode c_G_lookAt 77 = .ok (.iload_n 3, 1) := by decide +kernel
theorem e_G_lookAt_77 {a0 a1 a2 a4 : Option Value} : q_G_lookAt S (f + 1) 77 [a0, a1, a2, some (.int x), a4] st h = (q_G_lookAt S f 78 [a0, a1, a2, some (.int x), a4] (.int x :: st) h) := by rw [q_G_lookAt, hz_w_at d_G_lookAt_77]; rfl
theorem d_G_lookAt_78 : decode c_G_lookAt 78 = .ok (.isub, 1) := by decide +kernel
theorem e_G_lookAt_78 : q_G_lookAt S (f + 1) 78 L (.int y :: .int x :: st) h = (q_G_lookAt S f 79 L (.int (x - y) :: st) h) := by rw [q_G_lookAt, hz_w_at d_G_lookAt_78]; rfl
theorem d_G_lookAt_79 : decode c_G_lookAt 79 = .ok (.aload_n 2, 1) := by decide +kernel
theorem e_G_lookAt_79 {a0 a1 a3 a4 : Option Value} : q_G_lookAt S (f + 1) 79 [a0, a1, some (.ref i), a3, a4] st h = (q_G_lookAt S f 80 [a0, a1, some (.ref i), a3, a4] (.ref i :: st) h) := by rw [q_G_lookAt, hz_w_at d_G_lookAt_79]; rfl
theorem e_G_lookAt_79n {a0 a1 a3 a4 : Option Value} : q_G_lookAt S (f + 1) 79 [a0, a1, some .null, a3, a4] st h = (q_G_lookAt S f 80 [a0, a1, some .null, a3, a4] (.null :: st) h) := by rw [q_G_lookAt, hz_w_at d_G_lookAt_79]; rfl
theorem d_G_lookAt_80 : decode c_G_lookAt 80 = .ok (.getfield 93, 3) := by decide +kernel
theorem e_G_lookAt_80 : q_G_lookAt S (f + 1) 80 L (.ref i :: st) h = (hz_rd h i 0 2 fun v => q_G_lookAt S f 83 L (v :: st) h) := by rw [q_G_lookAt, hz_w_at d_G_lookAt_80]; rfl
theorem d_G_lookAt_83 : decode c_G_lookAt 83 = .ok (.iload_n 3, 1) := by decide +kernel
theorem e_G_lookAt_83 {a0 a1 a2 a4 : Option Value} : q_G_lookAt S (f + 1) 83 [a0, a1, a2, some (.int x), a4] st h = (q_G_lookAt S f 84 [a0, a1, a2, some (.int x), a4] (.int x :: st) h) := by rw [q_G_lookAt, hz_w_at d_G_lookAt_83]; rfl
theorem d_G_lookAt_84 : decode c_G_lookAt 84 = .ok (.iaload, 1) := by decide +kernel
theorem e_G_lookAt_84 : q_G_lookAt S (f + 1) 84 L (.int x :: .ref i :: st) h = (hz_ea zKT hz_kI h i x fun v => q_G_lookAt S f 85 L (v :: st) h) := by rw [q_G_lookAt, hz_w_at d_G_lookAt_84]; rfl
theorem d_G_lookAt_85 : decode c_G_lookAt 85 = .ok (.iadd, 1) := by decide +kernel
theorem e_G_lookAt_85 : q_G_lookAt S (f + 1) 85 L (.int y :: .int x :: st) h = (q_G_lookAt S f 86 L (.int (x + y) :: st) h) := by rw [q_G_lookAt, hz_w_at d_G_lookAt_85]; rfl
theorem d_G_lookAt_86 : decode c_G_lookAt 86 = .ok (.iaload, 1) := by decide +kernel
theorem e_G_lookAt_86 : q_G_lookAt S (f + 1) 86 L (.int x :: .ref i :: st) h = (hz_ea zKT hz_kI h i x fun v => q_G_lookAt S f 87 L (v :: st) h) := by rw [q_G_lookAt, hz_w_at d_G_lookAt_86]; rfl
theorem d_G_lookAt_87 : decode c_G_lookAt 87 = .ok (.invokevirtual 96, 3) := by decide +kernel
theorem e_G_lookAt_87 : q_G_lookAt S (f + 1) 87 L st h = (S 87 L st h) := by rw [q_G_lookAt, hz_w_at d_G_lookAt_87]; rfl
theorem d_G_lookAt_90 : decode c_G_lookAt 90 = .ok (.goto 143, 3) := by decide +kernel
theorem e_G_lookAt_90 : q_G_lookAt S (f + 1) 90 L st h = (q_G_lookAt S f 233 L st h) := by rw [q_G_lookAt, hz_w_at d_G_lookAt_90]; rfl
theorem d_G_lookAt_93 : decode c_G_lookAt 93 = .ok (.iload 4, 2) := by decide +kernel
theorem e_G_lookAt_93 {a0 a1 a2 a3 : Option Value} : q_G_lookAt S (f + 1) 93 [a0, a1, a2, a3, some (.int x)] st h = (q_G_lookAt S f 95 [a0, a1, a2, a3, some (.int x)] (.int x :: st) h) := by rw [q_G_lookAt, hz_w_at d_G_lookAt_93]; rfl
theorem d_G_lookAt_95 : decode c_G_lookAt 95 = .ok (.invokestatic 99, 3) := by decide +kernel
theorem e_G_lookAt_95 : q_G_lookAt S (f + 1) 95 L st h = (S 95 L st h) := by rw [q_G_lookAt, hz_w_at d_G_lookAt_95]; rfl
theorem d_G_lookAt_98 : decode c_G_lookAt 98 = .ok (.ifCond .eq 16, 3) := by decide +kernel
theorem e_G_lookAt_98 : q_G_lookAt S (f + 1) 98 L (.int x :: st) h = ((x.toInt = 0 → q_G_lookAt S f 114 L st h) ∧ (¬ (x.toInt = 0) → q_G_lookAt S f 101 L st h)) := by rw [q_G_lookAt, hz_w_at d_G_lookAt_98]; rfl
theorem d_G_lookAt_101 : decode c_G_lookAt 101 = .ok (.aload_n 0, 1) := by decide +kernel
theorem e_G_lookAt_101 {a1 a2 a3 a4 : Option Value} : q_G_lookAt S (f + 1) 101 [some (.ref i), a1, a2, a3, a4] st h = (q_G_lookAt S f 102 [some (.ref i), a1, a2, a3, a4] (.ref i :: st) h) := by rw [q_G_lookAt, hz_w_at d_G_lookAt_101]; rfl
theorem e_G_lookAt_101n {a1 a2 a3 a4 : Option Value} : q_G_lookAt S (f + 1) 101 [some .null, a1, a2, a3, a4] st h = (q_G_lookAt S f 102 [some .null, a1, a2, a3, a4] (.null :: st) h) := by rw [q_G_lookAt, hz_w_at d_G_lookAt_101]; rfl
theorem d_G_lookAt_102 : decode c_G_lookAt 102 = .ok (.iload_n 1, 1) := by decide +kernel
theorem e_G_lookAt_102 {a0 a2 a3 a4 : Option Value} : q_G_lookAt S (f + 1) 102 [a0, some (.int x), a2, a3, a4] st h = (q_G_lookAt S f 103 [a0, some (.int x), a2, a3, a4] (.int x :: st) h) := by rw [q_G_lookAt, hz_w_at d_G_lookAt_102]; rfl
theorem d_G_lookAt_103 : decode c_G_lookAt 103 = .ok (.iload 4, 2) := by decide +kernel
theorem e_G_lookAt_103 {a0 a1 a2 a3 : Option Value} : q_G_lookAt S (f + 1) 103 [a0, a1, a2, a3, some (.int x)] st h = (q_G_lookAt S f 105 [a0, a1, a2, a3, some (.int x)] (.int x :: st) h) := by rw [q_G_lookAt, hz_w_at d_G_lookAt_103]; rfl
theorem d_G_lookAt_105 : decode c_G_lookAt 105 = .ok (.bipush 65, 2) := by decide +kernel
theorem e_G_lookAt_105 : q_G_lookAt S (f + 1) 105 L st h = (q_G_lookAt S f 107 L (.int (hz_n 65) :: st) h) := by rw [q_G_lookAt, hz_w_at d_G_lookAt_105]; rfl
theorem d_G_lookAt_107 : decode c_G_lookAt 107 = .ok (.isub, 1) := by decide +kernel
theorem e_G_lookAt_107 : q_G_lookAt S (f + 1) 107 L (.int y :: .int x :: st) h = (q_G_lookAt S f 108 L (.int (x - y) :: st) h) := by rw [q_G_lookAt, hz_w_at d_G_lookAt_107]; rfl
theorem d_G_lookAt_108 : decode c_G_lookAt 108 = .ok (.invokevirtual 78, 3) := by decide +kernel
theorem e_G_lookAt_108 : q_G_lookAt S (f + 1) 108 L st h = (S 108 L st h) := by rw [q_G_lookAt, hz_w_at d_G_lookAt_108]; rfl
theorem d_G_lookAt_111 : decode c_G_lookAt 111 = .ok (.goto 122, 3) := by decide +kernel
theorem e_G_lookAt_111 : q_G_lookAt S (f + 1) 111 L st h = (q_G_lookAt S f 233 L st h) := by rw [q_G_lookAt, hz_w_at d_G_lookAt_111]; rfl
theorem d_G_lookAt_114 : decode c_G_lookAt 114 = .ok (.iload 4, 2) := by decide +kernel
theorem e_G_lookAt_114 {a0 a1 a2 a3 : Option Value} : q_G_lookAt S (f + 1) 114 [a0, a1, a2, a3, some (.int x)] st h = (q_G_lookAt S f 116 [a0, a1, a2, a3, some (.int x)] (.int x :: st) h) := by rw [q_G_lookAt, hz_w_at d_G_lookAt_114]; rfl
theorem d_G_lookAt_116 : decode c_G_lookAt 116 = .ok (.bipush 126, 2) := by decide +kernel
theorem e_G_lookAt_116 : q_G_lookAt S (f + 1) 116 L st h = (q_G_lookAt S f 118 L (.int (hz_n 126) :: st) h) := by rw [q_G_lookAt, hz_w_at d_G_lookAt_116]; rfl
theorem d_G_lookAt_118 : decode c_G_lookAt 118 = .ok (.if_icmp .ne 13, 3) := by decide +kernel
theorem e_G_lookAt_118 : q_G_lookAt S (f + 1) 118 L (.int y :: .int x :: st) h = ((¬ x.toInt = y.toInt → q_G_lookAt S f 131 L st h) ∧ (¬ (¬ x.toInt = y.toInt) → q_G_lookAt S f 121 L st h)) := by rw [q_G_lookAt, hz_w_at d_G_lookAt_118]; rfl
theorem d_G_lookAt_121 : decode c_G_lookAt 121 = .ok (.aload_n 0, 1) := by decide +kernel
theorem e_G_lookAt_121 {a1 a2 a3 a4 : Option Value} : q_G_lookAt S (f + 1) 121 [some (.ref i), a1, a2, a3, a4] st h = (q_G_lookAt S f 122 [some (.ref i), a1, a2, a3, a4] (.ref i :: st) h) := by rw [q_G_lookAt, hz_w_at d_G_lookAt_121]; rfl
theorem e_G_lookAt_121n {a1 a2 a3 a4 : Option Value} : q_G_lookAt S (f + 1) 121 [some .null, a1, a2, a3, a4] st h = (q_G_lookAt S f 122 [some .null, a1, a2, a3, a4] (.null :: st) h) := by rw [q_G_lookAt, hz_w_at d_G_lookAt_121]; rfl
theorem d_G_lookAt_122 : decode c_G_lookAt 122 = .ok (.iload_n 1, 1) := by decide +kernel
theorem e_G_lookAt_122 {a0 a2 a3 a4 : Option Value} : q_G_lookAt S (f + 1) 122 [a0, some (.int x), a2, a3, a4] st h = (q_G_lookAt S f 123 [a0, some (.int x), a2, a3, a4] (.int x :: st) h) := by rw [q_G_lookAt, hz_w_at d_G_lookAt_122]; rfl
theorem d_G_lookAt_123 : decode c_G_lookAt 123 = .ok (.iconst 3, 1) := by decide +kernel
theorem e_G_lookAt_123 : q_G_lookAt S (f + 1) 123 L st h = (q_G_lookAt S f 124 L (.int (hz_n 3) :: st) h) := by rw [q_G_lookAt, hz_w_at d_G_lookAt_123]; rfl
theorem d_G_lookAt_124 : decode c_G_lookAt 124 = .ok (.iconst 0, 1) := by decide +kernel
theorem e_G_lookAt_124 : q_G_lookAt S (f + 1) 124 L st h = (q_G_lookAt S f 125 L (.int (hz_n 0) :: st) h) := by rw [q_G_lookAt, hz_w_at d_G_lookAt_124]; rfl
theorem d_G_lookAt_125 : decode c_G_lookAt 125 = .ok (.invokevirtual 74, 3) := by decide +kernel
theorem e_G_lookAt_125 : q_G_lookAt S (f + 1) 125 L st h = (S 125 L st h) := by rw [q_G_lookAt, hz_w_at d_G_lookAt_125]; rfl
theorem d_G_lookAt_128 : decode c_G_lookAt 128 = .ok (.goto 105, 3) := by decide +kernel
theorem e_G_lookAt_128 : q_G_lookAt S (f + 1) 128 L st h = (q_G_lookAt S f 233 L st h) := by rw [q_G_lookAt, hz_w_at d_G_lookAt_128]; rfl
theorem d_G_lookAt_131 : decode c_G_lookAt 131 = .ok (.iload 4, 2) := by decide +kernel
theorem e_G_lookAt_131 {a0 a1 a2 a3 : Option Value} : q_G_lookAt S (f + 1) 131 [a0, a1, a2, a3, some (.int x)] st h = (q_G_lookAt S f 133 [a0, a1, a2, a3, some (.int x)] (.int x :: st) h) := by rw [q_G_lookAt, hz_w_at d_G_lookAt_131]; rfl
theorem d_G_lookAt_133 : decode c_G_lookAt 133 = .ok (.bipush 58, 2) := by decide +kernel
theorem e_G_lookAt_133 : q_G_lookAt S (f + 1) 133 L st h = (q_G_lookAt S f 135 L (.int (hz_n 58) :: st) h) := by rw [q_G_lookAt, hz_w_at d_G_lookAt_133]; rfl
theorem d_G_lookAt_135 : decode c_G_lookAt 135 = .ok (.if_icmp .ne 13, 3) := by decide +kernel
theorem e_G_lookAt_135 : q_G_lookAt S (f + 1) 135 L (.int y :: .int x :: st) h = ((¬ x.toInt = y.toInt → q_G_lookAt S f 148 L st h) ∧ (¬ (¬ x.toInt = y.toInt) → q_G_lookAt S f 138 L st h)) := by rw [q_G_lookAt, hz_w_at d_G_lookAt_135]; rfl
theorem d_G_lookAt_138 : decode c_G_lookAt 138 = .ok (.aload_n 0, 1) := by decide +kernel
theorem e_G_lookAt_138 {a1 a2 a3 a4 : Option Value} : q_G_lookAt S (f + 1) 138 [some (.ref i), a1, a2, a3, a4] st h = (q_G_lookAt S f 139 [some (.ref i), a1, a2, a3, a4] (.ref i :: st) h) := by rw [q_G_lookAt, hz_w_at d_G_lookAt_138]; rfl
theorem e_G_lookAt_138n {a1 a2 a3 a4 : Option Value} : q_G_lookAt S (f + 1) 138 [some .null, a1, a2, a3, a4] st h = (q_G_lookAt S f 139 [some .null, a1, a2, a3, a4] (.null :: st) h) := by rw [q_G_lookAt, hz_w_at d_G_lookAt_138]; rfl
theorem d_G_lookAt_139 : decode c_G_lookAt 139 = .ok (.iload_n 1, 1) := by decide +kernel
theorem e_G_lookAt_139 {a0 a2 a3 a4 : Option Value} : q_G_lookAt S (f + 1) 139 [a0, some (.int x), a2, a3, a4] st h = (q_G_lookAt S f 140 [a0, some (.int x), a2, a3, a4] (.int x :: st) h) := by rw [q_G_lookAt, hz_w_at d_G_lookAt_139]; rfl
theorem d_G_lookAt_140 : decode c_G_lookAt 140 = .ok (.iconst 4, 1) := by decide +kernel
theorem e_G_lookAt_140 : q_G_lookAt S (f + 1) 140 L st h = (q_G_lookAt S f 141 L (.int (hz_n 4) :: st) h) := by rw [q_G_lookAt, hz_w_at d_G_lookAt_140]; rfl
theorem d_G_lookAt_141 : decode c_G_lookAt 141 = .ok (.iload_n 1, 1) := by decide +kernel
theorem e_G_lookAt_141 {a0 a2 a3 a4 : Option Value} : q_G_lookAt S (f + 1) 141 [a0, some (.int x), a2, a3, a4] st h = (q_G_lookAt S f 142 [a0, some (.int x), a2, a3, a4] (.int x :: st) h) := by rw [q_G_lookAt, hz_w_at d_G_lookAt_141]; rfl
theorem d_G_lookAt_142 : decode c_G_lookAt 142 = .ok (.invokevirtual 74, 3) := by decide +kernel
theorem e_G_lookAt_142 : q_G_lookAt S (f + 1) 142 L st h = (S 142 L st h) := by rw [q_G_lookAt, hz_w_at d_G_lookAt_142]; rfl
theorem d_G_lookAt_145 : decode c_G_lookAt 145 = .ok (.goto 88, 3) := by decide +kernel
theorem e_G_lookAt_145 : q_G_lookAt S (f + 1) 145 L st h = (q_G_lookAt S f 233 L st h) := by rw [q_G_lookAt, hz_w_at d_G_lookAt_145]; rfl
theorem d_G_lookAt_148 : decode c_G_lookAt 148 = .ok (.iload 4, 2) := by decide +kernel
theorem e_G_lookAt_148 {a0 a1 a2 a3 : Option Value} : q_G_lookAt S (f + 1) 148 [a0, a1, a2, a3, some (.int x)] st h = (q_G_lookAt S f 150 [a0, a1, a2, a3, some (.int x)] (.int x :: st) h) := by rw [q_G_lookAt, hz_w_at d_G_lookAt_148]; rfl
theorem d_G_lookAt_150 : decode c_G_lookAt 150 = .ok (.bipush 40, 2) := by decide +kernel
theorem e_G_lookAt_150 : q_G_lookAt S (f + 1) 150 L st h = (q_G_lookAt S f 152 L (.int (hz_n 40) :: st) h) := by rw [q_G_lookAt, hz_w_at d_G_lookAt_150]; rfl
theorem d_G_lookAt_152 : decode c_G_lookAt 152 = .ok (.if_icmp .ne 11, 3) := by decide +kernel
theorem e_G_lookAt_152 : q_G_lookAt S (f + 1) 152 L (.int y :: .int x :: st) h = ((¬ x.toInt = y.toInt → q_G_lookAt S f 163 L st h) ∧ (¬ (¬ x.toInt = y.toInt) → q_G_lookAt S f 155 L st h)) := by rw [q_G_lookAt, hz_w_at d_G_lookAt_152]; rfl
theorem d_G_lookAt_155 : decode c_G_lookAt 155 = .ok (.aload_n 0, 1) := by decide +kernel
theorem e_G_lookAt_155 {a1 a2 a3 a4 : Option Value} : q_G_lookAt S (f + 1) 155 [some (.ref i), a1, a2, a3, a4] st h = (q_G_lookAt S f 156 [some (.ref i), a1, a2, a3, a4] (.ref i :: st) h) := by rw [q_G_lookAt, hz_w_at d_G_lookAt_155]; rfl
theorem e_G_lookAt_155n {a1 a2 a3 a4 : Option Value} : q_G_lookAt S (f + 1) 155 [some .null, a1, a2, a3, a4] st h = (q_G_lookAt S f 156 [some .null, a1, a2, a3, a4] (.null :: st) h) := by rw [q_G_lookAt, hz_w_at d_G_lookAt_155]; rfl
theorem d_G_lookAt_156 : decode c_G_lookAt 156 = .ok (.iload_n 1, 1) := by decide +kernel
theorem e_G_lookAt_156 {a0 a2 a3 a4 : Option Value} : q_G_lookAt S (f + 1) 156 [a0, some (.int x), a2, a3, a4] st h = (q_G_lookAt S f 157 [a0, some (.int x), a2, a3, a4] (.int x :: st) h) := by rw [q_G_lookAt, hz_w_at d_G_lookAt_156]; rfl
theorem d_G_lookAt_157 : decode c_G_lookAt 157 = .ok (.invokevirtual 102, 3) := by decide +kernel
theorem e_G_lookAt_157 : q_G_lookAt S (f + 1) 157 L st h = (S 157 L st h) := by rw [q_G_lookAt, hz_w_at d_G_lookAt_157]; rfl
theorem d_G_lookAt_160 : decode c_G_lookAt 160 = .ok (.goto 73, 3) := by decide +kernel
theorem e_G_lookAt_160 : q_G_lookAt S (f + 1) 160 L st h = (q_G_lookAt S f 233 L st h) := by rw [q_G_lookAt, hz_w_at d_G_lookAt_160]; rfl
theorem d_G_lookAt_163 : decode c_G_lookAt 163 = .ok (.iload 4, 2) := by decide +kernel
theorem e_G_lookAt_163 {a0 a1 a2 a3 : Option Value} : q_G_lookAt S (f + 1) 163 [a0, a1, a2, a3, some (.int x)] st h = (q_G_lookAt S f 165 [a0, a1, a2, a3, some (.int x)] (.int x :: st) h) := by rw [q_G_lookAt, hz_w_at d_G_lookAt_163]; rfl
theorem d_G_lookAt_165 : decode c_G_lookAt 165 = .ok (.bipush 63, 2) := by decide +kernel
theorem e_G_lookAt_165 : q_G_lookAt S (f + 1) 165 L st h = (q_G_lookAt S f 167 L (.int (hz_n 63) :: st) h) := by rw [q_G_lookAt, hz_w_at d_G_lookAt_165]; rfl
theorem d_G_lookAt_167 : decode c_G_lookAt 167 = .ok (.if_icmp .ne 11, 3) := by decide +kernel
theorem e_G_lookAt_167 : q_G_lookAt S (f + 1) 167 L (.int y :: .int x :: st) h = ((¬ x.toInt = y.toInt → q_G_lookAt S f 178 L st h) ∧ (¬ (¬ x.toInt = y.toInt) → q_G_lookAt S f 170 L st h)) := by rw [q_G_lookAt, hz_w_at d_G_lookAt_167]; rfl
theorem d_G_lookAt_170 : decode c_G_lookAt 170 = .ok (.aload_n 0, 1) := by decide +kernel
theorem e_G_lookAt_170 {a1 a2 a3 a4 : Option Value} : q_G_lookAt S (f + 1) 170 [some (.ref i), a1, a2, a3, a4] st h = (q_G_lookAt S f 171 [some (.ref i), a1, a2, a3, a4] (.ref i :: st) h) := by rw [q_G_lookAt, hz_w_at d_G_lookAt_170]; rfl
theorem e_G_lookAt_170n {a1 a2 a3 a4 : Option Value} : q_G_lookAt S (f + 1) 170 [some .null, a1, a2, a3, a4] st h = (q_G_lookAt S f 171 [some .null, a1, a2, a3, a4] (.null :: st) h) := by rw [q_G_lookAt, hz_w_at d_G_lookAt_170]; rfl
theorem d_G_lookAt_171 : decode c_G_lookAt 171 = .ok (.iload_n 1, 1) := by decide +kernel
theorem e_G_lookAt_171 {a0 a2 a3 a4 : Option Value} : q_G_lookAt S (f + 1) 171 [a0, some (.int x), a2, a3, a4] st h = (q_G_lookAt S f 172 [a0, some (.int x), a2, a3, a4] (.int x :: st) h) := by rw [q_G_lookAt, hz_w_at d_G_lookAt_171]; rfl
theorem d_G_lookAt_172 : decode c_G_lookAt 172 = .ok (.invokevirtual 105, 3) := by decide +kernel
theorem e_G_lookAt_172 : q_G_lookAt S (f + 1) 172 L st h = (S 172 L st h) := by rw [q_G_lookAt, hz_w_at d_G_lookAt_172]; rfl
theorem d_G_lookAt_175 : decode c_G_lookAt 175 = .ok (.goto 58, 3) := by decide +kernel
theorem e_G_lookAt_175 : q_G_lookAt S (f + 1) 175 L st h = (q_G_lookAt S f 233 L st h) := by rw [q_G_lookAt, hz_w_at d_G_lookAt_175]; rfl
theorem d_G_lookAt_178 : decode c_G_lookAt 178 = .ok (.iload 4, 2) := by decide +kernel
theorem e_G_lookAt_178 {a0 a1 a2 a3 : Option Value} : q_G_lookAt S (f + 1) 178 [a0, a1, a2, a3, some (.int x)] st h = (q_G_lookAt S f 180 [a0, a1, a2, a3, some (.int x)] (.int x :: st) h) := by rw [q_G_lookAt, hz_w_at d_G_lookAt_178]; rfl
theorem d_G_lookAt_180 : decode c_G_lookAt 180 = .ok (.bipush 47, 2) := by decide +kernel
theorem e_G_lookAt_180 : q_G_lookAt S (f + 1) 180 L st h = (q_G_lookAt S f 182 L (.int (hz_n 47) :: st) h) := by rw [q_G_lookAt, hz_w_at d_G_lookAt_180]; rfl
theorem d_G_lookAt_182 : decode c_G_lookAt 182 = .ok (.if_icmp .ne 11, 3) := by decide +kernel
theorem e_G_lookAt_182 : q_G_lookAt S (f + 1) 182 L (.int y :: .int x :: st) h = ((¬ x.toInt = y.toInt → q_G_lookAt S f 193 L st h) ∧ (¬ (¬ x.toInt = y.toInt) → q_G_lookAt S f 185 L st h)) := by rw [q_G_lookAt, hz_w_at d_G_lookAt_182]; rfl
theorem d_G_lookAt_185 : decode c_G_lookAt 185 = .ok (.aload_n 0, 1) := by decide +kernel
theorem e_G_lookAt_185 {a1 a2 a3 a4 : Option Value} : q_G_lookAt S (f + 1) 185 [some (.ref i), a1, a2, a3, a4] st h = (q_G_lookAt S f 186 [some (.ref i), a1, a2, a3, a4] (.ref i :: st) h) := by rw [q_G_lookAt, hz_w_at d_G_lookAt_185]; rfl
theorem e_G_lookAt_185n {a1 a2 a3 a4 : Option Value} : q_G_lookAt S (f + 1) 185 [some .null, a1, a2, a3, a4] st h = (q_G_lookAt S f 186 [some .null, a1, a2, a3, a4] (.null :: st) h) := by rw [q_G_lookAt, hz_w_at d_G_lookAt_185]; rfl
theorem d_G_lookAt_186 : decode c_G_lookAt 186 = .ok (.iload_n 1, 1) := by decide +kernel
theorem e_G_lookAt_186 {a0 a2 a3 a4 : Option Value} : q_G_lookAt S (f + 1) 186 [a0, some (.int x), a2, a3, a4] st h = (q_G_lookAt S f 187 [a0, some (.int x), a2, a3, a4] (.int x :: st) h) := by rw [q_G_lookAt, hz_w_at d_G_lookAt_186]; rfl
theorem d_G_lookAt_187 : decode c_G_lookAt 187 = .ok (.invokevirtual 108, 3) := by decide +kernel
theorem e_G_lookAt_187 : q_G_lookAt S (f + 1) 187 L st h = (S 187 L st h) := by rw [q_G_lookAt, hz_w_at d_G_lookAt_187]; rfl
theorem d_G_lookAt_190 : decode c_G_lookAt 190 = .ok (.goto 43, 3) := by decide +kernel
theorem e_G_lookAt_190 : q_G_lookAt S (f + 1) 190 L st h = (q_G_lookAt S f 233 L st h) := by rw [q_G_lookAt, hz_w_at d_G_lookAt_190]; rfl
theorem d_G_lookAt_193 : decode c_G_lookAt 193 = .ok (.iload 4, 2) := by decide +kernel
theorem e_G_lookAt_193 {a0 a1 a2 a3 : Option Value} : q_G_lookAt S (f + 1) 193 [a0, a1, a2, a3, some (.int x)] st h = (q_G_lookAt S f 195 [a0, a1, a2, a3, some (.int x)] (.int x :: st) h) := by rw [q_G_lookAt, hz_w_at d_G_lookAt_193]; rfl
theorem d_G_lookAt_195 : decode c_G_lookAt 195 = .ok (.bipush 36, 2) := by decide +kernel
theorem e_G_lookAt_195 : q_G_lookAt S (f + 1) 195 L st h = (q_G_lookAt S f 197 L (.int (hz_n 36) :: st) h) := by rw [q_G_lookAt, hz_w_at d_G_lookAt_195]; rfl
theorem d_G_lookAt_197 : decode c_G_lookAt 197 = .ok (.if_icmp .ne 29, 3) := by decide +kernel
theorem e_G_lookAt_197 : q_G_lookAt S (f + 1) 197 L (.int y :: .int x :: st) h = ((¬ x.toInt = y.toInt → q_G_lookAt S f 226 L st h) ∧ (¬ (¬ x.toInt = y.toInt) → q_G_lookAt S f 200 L st h)) := by rw [q_G_lookAt, hz_w_at d_G_lookAt_197]; rfl
theorem d_G_lookAt_200 : decode c_G_lookAt 200 = .ok (.aload_n 0, 1) := by decide +kernel
theorem e_G_lookAt_200 {a1 a2 a3 a4 : Option Value} : q_G_lookAt S (f + 1) 200 [some (.ref i), a1, a2, a3, a4] st h = (q_G_lookAt S f 201 [some (.ref i), a1, a2, a3, a4] (.ref i :: st) h) := by rw [q_G_lookAt, hz_w_at d_G_lookAt_200]; rfl
theorem e_G_lookAt_200n {a1 a2 a3 a4 : Option Value} : q_G_lookAt S (f + 1) 200 [some .null, a1, a2, a3, a4] st h = (q_G_lookAt S f 201 [some .null, a1, a2, a3, a4] (.null :: st) h) := by rw [q_G_lookAt, hz_w_at d_G_lookAt_200]; rfl
theorem d_G_lookAt_201 : decode c_G_lookAt 201 = .ok (.getfield 27, 3) := by decide +kernel
theorem e_G_lookAt_201 : q_G_lookAt S (f + 1) 201 L (.ref i :: st) h = (hz_rd h i 1 4 fun v => q_G_lookAt S f 204 L (v :: st) h) := by rw [q_G_lookAt, hz_w_at d_G_lookAt_201]; rfl
theorem d_G_lookAt_204 : decode c_G_lookAt 204 = .ok (.iload_n 1, 1) := by decide +kernel
theorem e_G_lookAt_204 {a0 a2 a3 a4 : Option Value} : q_G_lookAt S (f + 1) 204 [a0, some (.int x), a2, a3, a4] st h = (q_G_lookAt S f 205 [a0, some (.int x), a2, a3, a4] (.int x :: st) h) := by rw [q_G_lookAt, hz_w_at d_G_lookAt_204]; rfl
theorem d_G_lookAt_205 : decode c_G_lookAt 205 = .ok (.iconst 1, 1) := by decide +kernel
theorem e_G_lookAt_205 : q_G_lookAt S (f + 1) 205 L st h = (q_G_lookAt S f 206 L (.int (hz_n 1) :: st) h) := by rw [q_G_lookAt, hz_w_at d_G_lookAt_205]; rfl
theorem d_G_lookAt_206 : decode c_G_lookAt 206 = .ok (.iadd, 1) := by decide +kernel
theorem e_G_lookAt_206 : q_G_lookAt S (f + 1) 206 L (.int y :: .int x :: st) h = (q_G_lookAt S f 207 L (.int (x + y) :: st) h) := by rw [q_G_lookAt, hz_w_at d_G_lookAt_206]; rfl
theorem d_G_lookAt_207 : decode c_G_lookAt 207 = .ok (.iload_n 1, 1) := by decide +kernel
theorem e_G_lookAt_207 {a0 a2 a3 a4 : Option Value} : q_G_lookAt S (f + 1) 207 [a0, some (.int x), a2, a3, a4] st h = (q_G_lookAt S f 208 [a0, some (.int x), a2, a3, a4] (.int x :: st) h) := by rw [q_G_lookAt, hz_w_at d_G_lookAt_207]; rfl
theorem d_G_lookAt_208 : decode c_G_lookAt 208 = .ok (.iconst 2, 1) := by decide +kernel
theorem e_G_lookAt_208 : q_G_lookAt S (f + 1) 208 L st h = (q_G_lookAt S f 209 L (.int (hz_n 2) :: st) h) := by rw [q_G_lookAt, hz_w_at d_G_lookAt_208]; rfl
theorem d_G_lookAt_209 : decode c_G_lookAt 209 = .ok (.iadd, 1) := by decide +kernel
theorem e_G_lookAt_209 : q_G_lookAt S (f + 1) 209 L (.int y :: .int x :: st) h = (q_G_lookAt S f 210 L (.int (x + y) :: st) h) := by rw [q_G_lookAt, hz_w_at d_G_lookAt_209]; rfl
theorem d_G_lookAt_210 : decode c_G_lookAt 210 = .ok (.iastore, 1) := by decide +kernel
theorem e_G_lookAt_210 : q_G_lookAt S (f + 1) 210 L (.int y :: .int x :: .ref i :: st) h = (hz_es zKT hz_kI h i x (.int y) fun h => q_G_lookAt S f 211 L st h) := by rw [q_G_lookAt, hz_w_at d_G_lookAt_210]; rfl
theorem d_G_lookAt_211 : decode c_G_lookAt 211 = .ok (.aload_n 0, 1) := by decide +kernel
theorem e_G_lookAt_211 {a1 a2 a3 a4 : Option Value} : q_G_lookAt S (f + 1) 211 [some (.ref i), a1, a2, a3, a4] st h = (q_G_lookAt S f 212 [some (.ref i), a1, a2, a3, a4] (.ref i :: st) h) := by rw [q_G_lookAt, hz_w_at d_G_lookAt_211]; rfl
theorem e_G_lookAt_211n {a1 a2 a3 a4 : Option Value} : q_G_lookAt S (f + 1) 211 [some .null, a1, a2, a3, a4] st h = (q_G_lookAt S f 212 [some .null, a1, a2, a3, a4] (.null :: st) h) := by rw [q_G_lookAt, hz_w_at d_G_lookAt_211]; rfl
theorem d_G_lookAt_212 : decode c_G_lookAt 212 = .ok (.iload_n 1, 1) := by decide +kernel
theorem e_G_lookAt_212 {a0 a2 a3 a4 : Option Value} : q_G_lookAt S (f + 1) 212 [a0, some (.int x), a2, a3, a4] st h = (q_G_lookAt S f 213 [a0, some (.int x), a2, a3, a4] (.int x :: st) h) := by rw [q_G_lookAt, hz_w_at d_G_lookAt_212]; rfl
theorem d_G_lookAt_213 : decode c_G_lookAt 213 = .ok (.aload_n 0, 1) := by decide +kernel
theorem e_G_lookAt_213 {a1 a2 a3 a4 : Option Value} : q_G_lookAt S (f + 1) 213 [some (.ref i), a1, a2, a3, a4] st h = (q_G_lookAt S f 214 [some (.ref i), a1, a2, a3, a4] (.ref i :: st) h) := by rw [q_G_lookAt, hz_w_at d_G_lookAt_213]; rfl
theorem e_G_lookAt_213n {a1 a2 a3 a4 : Option Value} : q_G_lookAt S (f + 1) 213 [some .null, a1, a2, a3, a4] st h = (q_G_lookAt S f 214 [some .null, a1, a2, a3, a4] (.null :: st) h) := by rw [q_G_lookAt, hz_w_at d_G_lookAt_213]; rfl
theorem d_G_lookAt_214 : decode c_G_lookAt 214 = .ok (.iload_n 1, 1) := by decide +kernel
theorem e_G_lookAt_214 {a0 a2 a3 a4 : Option Value} : q_G_lookAt S (f + 1) 214 [a0, some (.int x), a2, a3, a4] st h = (q_G_lookAt S f 215 [a0, some (.int x), a2, a3, a4] (.int x :: st) h) := by rw [q_G_lookAt, hz_w_at d_G_lookAt_214]; rfl
theorem d_G_lookAt_215 : decode c_G_lookAt 215 = .ok (.iconst 2, 1) := by decide +kernel
theorem e_G_lookAt_215 : q_G_lookAt S (f + 1) 215 L st h = (q_G_lookAt S f 216 L (.int (hz_n 2) :: st) h) := by rw [q_G_lookAt, hz_w_at d_G_lookAt_215]; rfl
theorem d_G_lookAt_216 : decode c_G_lookAt 216 = .ok (.iadd, 1) := by decide +kernel
theorem e_G_lookAt_216 : q_G_lookAt S (f + 1) 216 L (.int y :: .int x :: st) h = (q_G_lookAt S f 217 L (.int (x + y) :: st) h) := by rw [q_G_lookAt, hz_w_at d_G_lookAt_216]; rfl
theorem d_G_lookAt_217 : decode c_G_lookAt 217 = .ok (.invokevirtual 70, 3) := by decide +kernel
theorem e_G_lookAt_217 : q_G_lookAt S (f + 1) 217 L st h = (S 217 L st h) := by rw [q_G_lookAt, hz_w_at d_G_lookAt_217]; rfl
theorem d_G_lookAt_220 : decode c_G_lookAt 220 = .ok (.invokevirtual 96, 3) := by decide +kernel
theorem e_G_lookAt_220 : q_G_lookAt S (f + 1) 220 L st h = (S 220 L st h) := by rw [q_G_lookAt, hz_w_at d_G_lookAt_220]; rfl
theorem d_G_lookAt_223 : decode c_G_lookAt 223 = .ok (.goto 10, 3) := by decide +kernel
theorem e_G_lookAt_223 : q_G_lookAt S (f + 1) 223 L st h = (q_G_lookAt S f 233 L st h) := by rw [q_G_lookAt, hz_w_at d_G_lookAt_223]; rfl
theorem d_G_lookAt_226 : decode c_G_lookAt 226 = .ok (.aload_n 0, 1) := by decide +kernel
theorem e_G_lookAt_226 {a1 a2 a3 a4 : Option Value} : q_G_lookAt S (f + 1) 226 [some (.ref i), a1, a2, a3, a4] st h = (q_G_lookAt S f 227 [some (.ref i), a1, a2, a3, a4] (.ref i :: st) h) := by rw [q_G_lookAt, hz_w_at d_G_lookAt_226]; rfl
theorem e_G_lookAt_226n {a1 a2 a3 a4 : Option Value} : q_G_lookAt S (f + 1) 226 [some .null, a1, a2, a3, a4] st h = (q_G_lookAt S f 227 [some .null, a1, a2, a3, a4] (.null :: st) h) := by rw [q_G_lookAt, hz_w_at d_G_lookAt_226]; rfl
theorem d_G_lookAt_227 : decode c_G_lookAt 227 = .ok (.iload_n 1, 1) := by decide +kernel
theorem e_G_lookAt_227 {a0 a2 a3 a4 : Option Value} : q_G_lookAt S (f + 1) 227 [a0, some (.int x), a2, a3, a4] st h = (q_G_lookAt S f 228 [a0, some (.int x), a2, a3, a4] (.int x :: st) h) := by rw [q_G_lookAt, hz_w_at d_G_lookAt_227]; rfl
theorem d_G_lookAt_228 : decode c_G_lookAt 228 = .ok (.iload 4, 2) := by decide +kernel
theorem e_G_lookAt_228 {a0 a1 a2 a3 : Option Value} : q_G_lookAt S (f + 1) 228 [a0, a1, a2, a3, some (.int x)] st h = (q_G_lookAt S f 230 [a0, a1, a2, a3, some (.int x)] (.int x :: st) h) := by rw [q_G_lookAt, hz_w_at d_G_lookAt_228]; rfl
theorem d_G_lookAt_230 : decode c_G_lookAt 230 = .ok (.invokevirtual 111, 3) := by decide +kernel
theorem e_G_lookAt_230 : q_G_lookAt S (f + 1) 230 L st h = (S 230 L st h) := by rw [q_G_lookAt, hz_w_at d_G_lookAt_230]; rfl
theorem d_G_lookAt_233 : decode c_G_lookAt 233 = .ok (.return_, 1) := by decide +kernel
theorem e_G_lookAt_233 : q_G_lookAt S (f + 1) 233 L st h = (S 233 L st h) := by rw [q_G_lookAt, hz_w_at d_G_lookAt_233]; rfl
end
abbrev q_G_lookAtLetter (S : Nat → List (Option Value) → List Value → hz_H → Prop) := hz_w zCl zKT f_G n_G c_G_lookAtLetter [] S
section
variable {S : Nat → List (Option Value) → List Value → hz_H → Prop} {f : Nat} {L : List (Option Value)} {st : List Value} {h : hz_H} {x y : Int32} {i j : Nat} {X Y : Int64}
theorem d_G_lookAtLetter_0 : decode c_G_lookAtLetter 0 = .ok (.aload_n 0, 1) := by decide +kernel
theorem e_G_lookAtLetter_0 {a1 a2 a3 : Option Value} : q_G_lookAtLetter S (f + 1) 0 [some (.ref i), a1, a2, a3] st h = (q_G_lookAtLetter S f 1 [some (.ref i), a1, a2, a3] (.ref i :: st) h) := by rw [q_G_lookAtLetter, hz_w_at d_G_lookAtLetter_0]; rfl
theorem e_G_lookAtLetter_0n {a1 a2 a3 : Option Value} : q_G_lookAtLetter S (f + 1) 0 [some .null, a1, a2, a3] st h = (q_G_lookAtLetter S f 1 [some .null, a1, a2, a3] (.null :: st) h) := by rw [q_G_lookAtLetter, hz_w_at d_G_lookAtLetter_0]; rfl
theorem d_G_lookAtLetter_1 : decode c_G_lookAtLetter 1 = .ok (.iload_n 2, 1) := by decide +kernel
theorem e_G_lookAtLetter_1 {a0 a1 a3 : Option Value} : q_G_lookAtLetter S (f + 1) 1 [a0, a1, some (.int x), a3] st h = (q_G_lookAtLetter S f 2 [a0, a1, some (.int x), a3] (.int x :: st) h) := by rw [q_G_lookAtLetter, hz_w_at d_G_lookAtLetter_1]; rfl
theorem d_G_lookAtLetter_2 : decode c_G_lookAtLetter 2 = .ok (.invokevirtual 114, 3) := by decide +kernel
theorem e_G_lookAtLetter_2 : q_G_lookAtLetter S (f + 1) 2 L st h = (S 2 L st h) := by rw [q_G_lookAtLetter, hz_w_at d_G_lookAtLetter_2]; rfl
theorem d_G_lookAtLetter_5 : decode c_G_lookAtLetter 5 = .ok (.istore_n 3, 1) := by decide +kernel
theorem e_G_lookAtLetter_5 {a0 a1 a2 a3 : Option Value} : q_G_lookAtLetter S (f + 1) 5 [a0, a1, a2, a3] (.int x :: st) h = (q_G_lookAtLetter S f 6 [a0, a1, a2, some (.int x)] st h) := by rw [q_G_lookAtLetter, hz_w_at d_G_lookAtLetter_5]; rfl
theorem d_G_lookAtLetter_6 : decode c_G_lookAtLetter 6 = .ok (.iload_n 3, 1) := by decide +kernel
theorem e_G_lookAtLetter_6 {a0 a1 a2 : Option Value} : q_G_lookAtLetter S (f + 1) 6 [a0, a1, a2, some (.int x)] st h = (q_G_lookAtLetter S f 7 [a0, a1, a2, some (.int x)] (.int x :: st) h) := by rw [q_G_lookAtLetter, hz_w_at d_G_lookAtLetter_6]; rfl
theorem d_G_lookAtLetter_7 : decode c_G_lookAtLetter 7 = .ok (.iconst (-1), 1) := by decide +kernel
theorem e_G_lookAtLetter_7 : q_G_lookAtLetter S (f + 1) 7 L st h = (q_G_lookAtLetter S f 8 L (.int (hz_n (-1)) :: st) h) := by rw [q_G_lookAtLetter, hz_w_at d_G_lookAtLetter_7]; rfl
theorem d_G_lookAtLetter_8 : decode c_G_lookAtLetter 8 = .ok (.if_icmp .ne 12, 3) := by decide +kernel
theorem e_G_lookAtLetter_8 : q_G_lookAtLetter S (f + 1) 8 L (.int y :: .int x :: st) h = ((¬ x.toInt = y.toInt → q_G_lookAtLetter S f 20 L st h) ∧ (¬ (¬ x.toInt = y.toInt) → q_G_lookAtLetter S f 11 L st h)) := by rw [q_G_lookAtLetter, hz_w_at d_G_lookAtLetter_8]; rfl
theorem d_G_lookAtLetter_11 : decode c_G_lookAtLetter 11 = .ok (.aload_n 0, 1) := by decide +kernel
theorem e_G_lookAtLetter_11 {a1 a2 a3 : Option Value} : q_G_lookAtLetter S (f + 1) 11 [some (.ref i), a1, a2, a3] st h = (q_G_lookAtLetter S f 12 [some (.ref i), a1, a2, a3] (.ref i :: st) h) := by rw [q_G_lookAtLetter, hz_w_at d_G_lookAtLetter_11]; rfl
theorem e_G_lookAtLetter_11n {a1 a2 a3 : Option Value} : q_G_lookAtLetter S (f + 1) 11 [some .null, a1, a2, a3] st h = (q_G_lookAtLetter S f 12 [some .null, a1, a2, a3] (.null :: st) h) := by rw [q_G_lookAtLetter, hz_w_at d_G_lookAtLetter_11]; rfl
theorem d_G_lookAtLetter_12 : decode c_G_lookAtLetter 12 = .ok (.bipush (-3), 2) := by decide +kernel
theorem e_G_lookAtLetter_12 : q_G_lookAtLetter S (f + 1) 12 L st h = (q_G_lookAtLetter S f 14 L (.int (hz_n (-3)) :: st) h) := by rw [q_G_lookAtLetter, hz_w_at d_G_lookAtLetter_12]; rfl
theorem d_G_lookAtLetter_14 : decode c_G_lookAtLetter 14 = .ok (.putfield 55, 3) := by decide +kernel
theorem e_G_lookAtLetter_14 : q_G_lookAtLetter S (f + 1) 14 L (.int x :: .ref i :: st) h = (hz_wr h i 1 13 (.int x) fun h => q_G_lookAtLetter S f 17 L st h) := by rw [q_G_lookAtLetter, hz_w_at d_G_lookAtLetter_14]; rfl
theorem d_G_lookAtLetter_17 : decode c_G_lookAtLetter 17 = .ok (.goto 61, 3) := by decide +kernel
theorem e_G_lookAtLetter_17 : q_G_lookAtLetter S (f + 1) 17 L st h = (q_G_lookAtLetter S f 78 L st h) := by rw [q_G_lookAtLetter, hz_w_at d_G_lookAtLetter_17]; rfl
theorem d_G_lookAtLetter_20 : decode c_G_lookAtLetter 20 = .ok (.iload_n 3, 1) := by decide +kernel
theorem e_G_lookAtLetter_20 {a0 a1 a2 : Option Value} : q_G_lookAtLetter S (f + 1) 20 [a0, a1, a2, some (.int x)] st h = (q_G_lookAtLetter S f 21 [a0, a1, a2, some (.int x)] (.int x :: st) h) := by rw [q_G_lookAtLetter, hz_w_at d_G_lookAtLetter_20]; rfl
theorem d_G_lookAtLetter_21 : decode c_G_lookAtLetter 21 = .ok (.ifCond .le 15, 3) := by decide +kernel
theorem e_G_lookAtLetter_21 : q_G_lookAtLetter S (f + 1) 21 L (.int x :: st) h = ((x.toInt ≤ 0 → q_G_lookAtLetter S f 36 L st h) ∧ (¬ (x.toInt ≤ 0) → q_G_lookAtLetter S f 24 L st h)) := by rw [q_G_lookAtLetter, hz_w_at d_G_lookAtLetter_21]; rfl
theorem d_G_lookAtLetter_24 : decode c_G_lookAtLetter 24 = .ok (.aload_n 0, 1) := by decide +kernel
theorem e_G_lookAtLetter_24 {a1 a2 a3 : Option Value} : q_G_lookAtLetter S (f + 1) 24 [some (.ref i), a1, a2, a3] st h = (q_G_lookAtLetter S f 25 [some (.ref i), a1, a2, a3] (.ref i :: st) h) := by rw [q_G_lookAtLetter, hz_w_at d_G_lookAtLetter_24]; rfl
theorem e_G_lookAtLetter_24n {a1 a2 a3 : Option Value} : q_G_lookAtLetter S (f + 1) 24 [some .null, a1, a2, a3] st h = (q_G_lookAtLetter S f 25 [some .null, a1, a2, a3] (.null :: st) h) := by rw [q_G_lookAtLetter, hz_w_at d_G_lookAtLetter_24]; rfl
theorem d_G_lookAtLetter_25 : decode c_G_lookAtLetter 25 = .ok (.iload_n 1, 1) := by decide +kernel
theorem e_G_lookAtLetter_25 {a0 a2 a3 : Option Value} : q_G_lookAtLetter S (f + 1) 25 [a0, some (.int x), a2, a3] st h = (q_G_lookAtLetter S f 26 [a0, some (.int x), a2, a3] (.int x :: st) h) := by rw [q_G_lookAtLetter, hz_w_at d_G_lookAtLetter_25]; rfl
theorem d_G_lookAtLetter_26 : decode c_G_lookAtLetter 26 = .ok (.iconst 5, 1) := by decide +kernel
theorem e_G_lookAtLetter_26 : q_G_lookAtLetter S (f + 1) 26 L st h = (q_G_lookAtLetter S f 27 L (.int (hz_n 5) :: st) h) := by rw [q_G_lookAtLetter, hz_w_at d_G_lookAtLetter_26]; rfl
theorem d_G_lookAtLetter_27 : decode c_G_lookAtLetter 27 = .ok (.iconst (-1), 1) := by decide +kernel
theorem e_G_lookAtLetter_27 : q_G_lookAtLetter S (f + 1) 27 L st h = (q_G_lookAtLetter S f 28 L (.int (hz_n (-1)) :: st) h) := by rw [q_G_lookAtLetter, hz_w_at d_G_lookAtLetter_27]; rfl
theorem d_G_lookAtLetter_28 : decode c_G_lookAtLetter 28 = .ok (.iload_n 2, 1) := by decide +kernel
theorem e_G_lookAtLetter_28 {a0 a1 a3 : Option Value} : q_G_lookAtLetter S (f + 1) 28 [a0, a1, some (.int x), a3] st h = (q_G_lookAtLetter S f 29 [a0, a1, some (.int x), a3] (.int x :: st) h) := by rw [q_G_lookAtLetter, hz_w_at d_G_lookAtLetter_28]; rfl
theorem d_G_lookAtLetter_29 : decode c_G_lookAtLetter 29 = .ok (.isub, 1) := by decide +kernel
theorem e_G_lookAtLetter_29 : q_G_lookAtLetter S (f + 1) 29 L (.int y :: .int x :: st) h = (q_G_lookAtLetter S f 30 L (.int (x - y) :: st) h) := by rw [q_G_lookAtLetter, hz_w_at d_G_lookAtLetter_29]; rfl
theorem d_G_lookAtLetter_30 : decode c_G_lookAtLetter 30 = .ok (.invokevirtual 74, 3) := by decide +kernel
theorem e_G_lookAtLetter_30 : q_G_lookAtLetter S (f + 1) 30 L st h = (S 30 L st h) := by rw [q_G_lookAtLetter, hz_w_at d_G_lookAtLetter_30]; rfl
theorem d_G_lookAtLetter_33 : decode c_G_lookAtLetter 33 = .ok (.goto 45, 3) := by decide +kernel
theorem e_G_lookAtLetter_33 : q_G_lookAtLetter S (f + 1) 33 L st h = (q_G_lookAtLetter S f 78 L st h) := by rw [q_G_lookAtLetter, hz_w_at d_G_lookAtLetter_33]; rfl
theorem d_G_lookAtLetter_36 : decode c_G_lookAtLetter 36 = .ok (.aload_n 0, 1) := by decide +kernel
theorem e_G_lookAtLetter_36 {a1 a2 a3 : Option Value} : q_G_lookAtLetter S (f + 1) 36 [some (.ref i), a1, a2, a3] st h = (q_G_lookAtLetter S f 37 [some (.ref i), a1, a2, a3] (.ref i :: st) h) := by rw [q_G_lookAtLetter, hz_w_at d_G_lookAtLetter_36]; rfl
theorem e_G_lookAtLetter_36n {a1 a2 a3 : Option Value} : q_G_lookAtLetter S (f + 1) 36 [some .null, a1, a2, a3] st h = (q_G_lookAtLetter S f 37 [some .null, a1, a2, a3] (.null :: st) h) := by rw [q_G_lookAtLetter, hz_w_at d_G_lookAtLetter_36]; rfl
theorem d_G_lookAtLetter_37 : decode c_G_lookAtLetter 37 = .ok (.getfield 20, 3) := by decide +kernel
theorem e_G_lookAtLetter_37 : q_G_lookAtLetter S (f + 1) 37 L (.ref i :: st) h = (hz_rd h i 1 2 fun v => q_G_lookAtLetter S f 40 L (v :: st) h) := by rw [q_G_lookAtLetter, hz_w_at d_G_lookAtLetter_37]; rfl
theorem d_G_lookAtLetter_40 : decode c_G_lookAtLetter 40 = .ok (.iload_n 2, 1) := by decide +kernel
theorem e_G_lookAtLetter_40 {a0 a1 a3 : Option Value} : q_G_lookAtLetter S (f + 1) 40 [a0, a1, some (.int x), a3] st h = (q_G_lookAtLetter S f 41 [a0, a1, some (.int x), a3] (.int x :: st) h) := by rw [q_G_lookAtLetter, hz_w_at d_G_lookAtLetter_40]; rfl
theorem d_G_lookAtLetter_41 : decode c_G_lookAtLetter 41 = .ok (.iaload, 1) := by decide +kernel
theorem e_G_lookAtLetter_41 : q_G_lookAtLetter S (f + 1) 41 L (.int x :: .ref i :: st) h = (hz_ea zKT hz_kI h i x fun v => q_G_lookAtLetter S f 42 L (v :: st) h) := by rw [q_G_lookAtLetter, hz_w_at d_G_lookAtLetter_41]; rfl
theorem d_G_lookAtLetter_42 : decode c_G_lookAtLetter 42 = .ok (.iconst (-1), 1) := by decide +kernel
theorem e_G_lookAtLetter_42 : q_G_lookAtLetter S (f + 1) 42 L st h = (q_G_lookAtLetter S f 43 L (.int (hz_n (-1)) :: st) h) := by rw [q_G_lookAtLetter, hz_w_at d_G_lookAtLetter_42]; rfl
theorem d_G_lookAtLetter_43 : decode c_G_lookAtLetter 43 = .ok (.if_icmp .ne 17, 3) := by decide +kernel
theorem e_G_lookAtLetter_43 : q_G_lookAtLetter S (f + 1) 43 L (.int y :: .int x :: st) h = ((¬ x.toInt = y.toInt → q_G_lookAtLetter S f 60 L st h) ∧ (¬ (¬ x.toInt = y.toInt) → q_G_lookAtLetter S f 46 L st h)) := by rw [q_G_lookAtLetter, hz_w_at d_G_lookAtLetter_43]; rfl
theorem d_G_lookAtLetter_46 : decode c_G_lookAtLetter 46 = .ok (.aload_n 0, 1) := by decide +kernel
theorem e_G_lookAtLetter_46 {a1 a2 a3 : Option Value} : q_G_lookAtLetter S (f + 1) 46 [some (.ref i), a1, a2, a3] st h = (q_G_lookAtLetter S f 47 [some (.ref i), a1, a2, a3] (.ref i :: st) h) := by rw [q_G_lookAtLetter, hz_w_at d_G_lookAtLetter_46]; rfl
theorem e_G_lookAtLetter_46n {a1 a2 a3 : Option Value} : q_G_lookAtLetter S (f + 1) 46 [some .null, a1, a2, a3] st h = (q_G_lookAtLetter S f 47 [some .null, a1, a2, a3] (.null :: st) h) := by rw [q_G_lookAtLetter, hz_w_at d_G_lookAtLetter_46]; rfl
theorem d_G_lookAtLetter_47 : decode c_G_lookAtLetter 47 = .ok (.getfield 20, 3) := by decide +kernel
theorem e_G_lookAtLetter_47 : q_G_lookAtLetter S (f + 1) 47 L (.ref i :: st) h = (hz_rd h i 1 2 fun v => q_G_lookAtLetter S f 50 L (v :: st) h) := by rw [q_G_lookAtLetter, hz_w_at d_G_lookAtLetter_47]; rfl
theorem d_G_lookAtLetter_50 : decode c_G_lookAtLetter 50 = .ok (.iload_n 2, 1) := by decide +kernel
theorem e_G_lookAtLetter_50 {a0 a1 a3 : Option Value} : q_G_lookAtLetter S (f + 1) 50 [a0, a1, some (.int x), a3] st h = (q_G_lookAtLetter S f 51 [a0, a1, some (.int x), a3] (.int x :: st) h) := by rw [q_G_lookAtLetter, hz_w_at d_G_lookAtLetter_50]; rfl
theorem d_G_lookAtLetter_51 : decode c_G_lookAtLetter 51 = .ok (.aload_n 0, 1) := by decide +kernel
theorem e_G_lookAtLetter_51 {a1 a2 a3 : Option Value} : q_G_lookAtLetter S (f + 1) 51 [some (.ref i), a1, a2, a3] st h = (q_G_lookAtLetter S f 52 [some (.ref i), a1, a2, a3] (.ref i :: st) h) := by rw [q_G_lookAtLetter, hz_w_at d_G_lookAtLetter_51]; rfl
theorem e_G_lookAtLetter_51n {a1 a2 a3 : Option Value} : q_G_lookAtLetter S (f + 1) 51 [some .null, a1, a2, a3] st h = (q_G_lookAtLetter S f 52 [some .null, a1, a2, a3] (.null :: st) h) := by rw [q_G_lookAtLetter, hz_w_at d_G_lookAtLetter_51]; rfl
theorem d_G_lookAtLetter_52 : decode c_G_lookAtLetter 52 = .ok (.iload_n 2, 1) := by decide +kernel
theorem e_G_lookAtLetter_52 {a0 a1 a3 : Option Value} : q_G_lookAtLetter S (f + 1) 52 [a0, a1, some (.int x), a3] st h = (q_G_lookAtLetter S f 53 [a0, a1, some (.int x), a3] (.int x :: st) h) := by rw [q_G_lookAtLetter, hz_w_at d_G_lookAtLetter_52]; rfl
theorem d_G_lookAtLetter_53 : decode c_G_lookAtLetter 53 = .ok (.iconst (-1), 1) := by decide +kernel
theorem e_G_lookAtLetter_53 : q_G_lookAtLetter S (f + 1) 53 L st h = (q_G_lookAtLetter S f 54 L (.int (hz_n (-1)) :: st) h) := by rw [q_G_lookAtLetter, hz_w_at d_G_lookAtLetter_53]; rfl
theorem d_G_lookAtLetter_54 : decode c_G_lookAtLetter 54 = .ok (.iload_n 2, 1) := by decide +kernel
theorem e_G_lookAtLetter_54 {a0 a1 a3 : Option Value} : q_G_lookAtLetter S (f + 1) 54 [a0, a1, some (.int x), a3] st h = (q_G_lookAtLetter S f 55 [a0, a1, some (.int x), a3] (.int x :: st) h) := by rw [q_G_lookAtLetter, hz_w_at d_G_lookAtLetter_54]; rfl
theorem d_G_lookAtLetter_55 : decode c_G_lookAtLetter 55 = .ok (.isub, 1) := by decide +kernel
theorem e_G_lookAtLetter_55 : q_G_lookAtLetter S (f + 1) 55 L (.int y :: .int x :: st) h = (q_G_lookAtLetter S f 56 L (.int (x - y) :: st) h) := by rw [q_G_lookAtLetter, hz_w_at d_G_lookAtLetter_55]; rfl
theorem d_G_lookAtLetter_56 : decode c_G_lookAtLetter 56 = .ok (.invokevirtual 116, 3) := by decide +kernel
theorem e_G_lookAtLetter_56 : q_G_lookAtLetter S (f + 1) 56 L st h = (S 56 L st h) := by rw [q_G_lookAtLetter, hz_w_at d_G_lookAtLetter_56]; rfl
theorem d_G_lookAtLetter_59 : decode c_G_lookAtLetter 59 = .ok (.iastore, 1) := by decide +kernel
theorem e_G_lookAtLetter_59 : q_G_lookAtLetter S (f + 1) 59 L (.int y :: .int x :: .ref i :: st) h = (hz_es zKT hz_kI h i x (.int y) fun h => q_G_lookAtLetter S f 60 L st h) := by rw [q_G_lookAtLetter, hz_w_at d_G_lookAtLetter_59]; rfl
theorem d_G_lookAtLetter_60 : decode c_G_lookAtLetter 60 = .ok (.aload_n 0, 1) := by decide +kernel
theorem e_G_lookAtLetter_60 {a1 a2 a3 : Option Value} : q_G_lookAtLetter S (f + 1) 60 [some (.ref i), a1, a2, a3] st h = (q_G_lookAtLetter S f 61 [some (.ref i), a1, a2, a3] (.ref i :: st) h) := by rw [q_G_lookAtLetter, hz_w_at d_G_lookAtLetter_60]; rfl
theorem e_G_lookAtLetter_60n {a1 a2 a3 : Option Value} : q_G_lookAtLetter S (f + 1) 60 [some .null, a1, a2, a3] st h = (q_G_lookAtLetter S f 61 [some .null, a1, a2, a3] (.null :: st) h) := by rw [q_G_lookAtLetter, hz_w_at d_G_lookAtLetter_60]; rfl
theorem d_G_lookAtLetter_61 : decode c_G_lookAtLetter 61 = .ok (.getfield 55, 3) := by decide +kernel
theorem e_G_lookAtLetter_61 : q_G_lookAtLetter S (f + 1) 61 L (.ref i :: st) h = (hz_rd h i 1 13 fun v => q_G_lookAtLetter S f 64 L (v :: st) h) := by rw [q_G_lookAtLetter, hz_w_at d_G_lookAtLetter_61]; rfl
theorem d_G_lookAtLetter_64 : decode c_G_lookAtLetter 64 = .ok (.ifCond .ne 14, 3) := by decide +kernel
theorem e_G_lookAtLetter_64 : q_G_lookAtLetter S (f + 1) 64 L (.int x :: st) h = ((¬ x.toInt = 0 → q_G_lookAtLetter S f 78 L st h) ∧ (¬ (¬ x.toInt = 0) → q_G_lookAtLetter S f 67 L st h)) := by rw [q_G_lookAtLetter, hz_w_at d_G_lookAtLetter_64]; rfl
theorem d_G_lookAtLetter_67 : decode c_G_lookAtLetter 67 = .ok (.aload_n 0, 1) := by decide +kernel
theorem e_G_lookAtLetter_67 {a1 a2 a3 : Option Value} : q_G_lookAtLetter S (f + 1) 67 [some (.ref i), a1, a2, a3] st h = (q_G_lookAtLetter S f 68 [some (.ref i), a1, a2, a3] (.ref i :: st) h) := by rw [q_G_lookAtLetter, hz_w_at d_G_lookAtLetter_67]; rfl
theorem e_G_lookAtLetter_67n {a1 a2 a3 : Option Value} : q_G_lookAtLetter S (f + 1) 67 [some .null, a1, a2, a3] st h = (q_G_lookAtLetter S f 68 [some .null, a1, a2, a3] (.null :: st) h) := by rw [q_G_lookAtLetter, hz_w_at d_G_lookAtLetter_67]; rfl
theorem d_G_lookAtLetter_68 : decode c_G_lookAtLetter 68 = .ok (.iload_n 1, 1) := by decide +kernel
theorem e_G_lookAtLetter_68 {a0 a2 a3 : Option Value} : q_G_lookAtLetter S (f + 1) 68 [a0, some (.int x), a2, a3] st h = (q_G_lookAtLetter S f 69 [a0, some (.int x), a2, a3] (.int x :: st) h) := by rw [q_G_lookAtLetter, hz_w_at d_G_lookAtLetter_68]; rfl
theorem d_G_lookAtLetter_69 : decode c_G_lookAtLetter 69 = .ok (.aload_n 0, 1) := by decide +kernel
theorem e_G_lookAtLetter_69 {a1 a2 a3 : Option Value} : q_G_lookAtLetter S (f + 1) 69 [some (.ref i), a1, a2, a3] st h = (q_G_lookAtLetter S f 70 [some (.ref i), a1, a2, a3] (.ref i :: st) h) := by rw [q_G_lookAtLetter, hz_w_at d_G_lookAtLetter_69]; rfl
theorem e_G_lookAtLetter_69n {a1 a2 a3 : Option Value} : q_G_lookAtLetter S (f + 1) 69 [some .null, a1, a2, a3] st h = (q_G_lookAtLetter S f 70 [some .null, a1, a2, a3] (.null :: st) h) := by rw [q_G_lookAtLetter, hz_w_at d_G_lookAtLetter_69]; rfl
theorem d_G_lookAtLetter_70 : decode c_G_lookAtLetter 70 = .ok (.getfield 20, 3) := by decide +kernel
theorem e_G_lookAtLetter_70 : q_G_lookAtLetter S (f + 1) 70 L (.ref i :: st) h = (hz_rd h i 1 2 fun v => q_G_lookAtLetter S f 73 L (v :: st) h) := by rw [q_G_lookAtLetter, hz_w_at d_G_lookAtLetter_70]; rfl
theorem d_G_lookAtLetter_73 : decode c_G_lookAtLetter 73 = .ok (.iload_n 2, 1) := by decide +kernel
theorem e_G_lookAtLetter_73 {a0 a1 a3 : Option Value} : q_G_lookAtLetter S (f + 1) 73 [a0, a1, some (.int x), a3] st h = (q_G_lookAtLetter S f 74 [a0, a1, some (.int x), a3] (.int x :: st) h) := by rw [q_G_lookAtLetter, hz_w_at d_G_lookAtLetter_73]; rfl
theorem d_G_lookAtLetter_74 : decode c_G_lookAtLetter 74 = .ok (.iaload, 1) := by decide +kernel
theorem e_G_lookAtLetter_74 : q_G_lookAtLetter S (f + 1) 74 L (.int x :: .ref i :: st) h = (hz_ea zKT hz_kI h i x fun v => q_G_lookAtLetter S f 75 L (v :: st) h) := by rw [q_G_lookAtLetter, hz_w_at d_G_lookAtLetter_74]; rfl
theorem d_G_lookAtLetter_75 : decode c_G_lookAtLetter 75 = .ok (.invokevirtual 96, 3) := by decide +kernel
theorem e_G_lookAtLetter_75 : q_G_lookAtLetter S (f + 1) 75 L st h = (S 75 L st h) := by rw [q_G_lookAtLetter, hz_w_at d_G_lookAtLetter_75]; rfl
theorem d_G_lookAtLetter_78 : decode c_G_lookAtLetter 78 = .ok (.return_, 1) := by decide +kernel
theorem e_G_lookAtLetter_78 : q_G_lookAtLetter S (f + 1) 78 L st h = (S 78 L st h) := by rw [q_G_lookAtLetter, hz_w_at d_G_lookAtLetter_78]; rfl
end
abbrev q_G_lookAtApplication (S : Nat → List (Option Value) → List Value → hz_H → Prop) := hz_w zCl zKT f_G n_G c_G_lookAtApplication [] S
section
variable {S : Nat → List (Option Value) → List Value → hz_H → Prop} {f : Nat} {L : List (Option Value)} {st : List Value} {h : hz_H} {x y : Int32} {i j : Nat} {X Y : Int64}
theorem d_G_lookAtApplication_0 : decode c_G_lookAtApplication 0 = .ok (.aload_n 0, 1) := by decide +kernel
theorem e_G_lookAtApplication_0 {a1 a2 : Option Value} : q_G_lookAtApplication S (f + 1) 0 [some (.ref i), a1, a2] st h = (q_G_lookAtApplication S f 1 [some (.ref i), a1, a2] (.ref i :: st) h) := by rw [q_G_lookAtApplication, hz_w_at d_G_lookAtApplication_0]; rfl
theorem e_G_lookAtApplication_0n {a1 a2 : Option Value} : q_G_lookAtApplication S (f + 1) 0 [some .null, a1, a2] st h = (q_G_lookAtApplication S f 1 [some .null, a1, a2] (.null :: st) h) := by rw [q_G_lookAtApplication, hz_w_at d_G_lookAtApplication_0]; rfl
theorem d_G_lookAtApplication_1 : decode c_G_lookAtApplication 1 = .ok (.getfield 33, 3) := by decide +kernel
theorem e_G_lookAtApplication_1 : q_G_lookAtApplication S (f + 1) 1 L (.ref i :: st) h = (hz_rd h i 1 6 fun v => q_G_lookAtApplication S f 4 L (v :: st) h) := by rw [q_G_lookAtApplication, hz_w_at d_G_lookAtApplication_1]; rfl
theorem d_G_lookAtApplication_4 : decode c_G_lookAtApplication 4 = .ok (.iload_n 1, 1) := by decide +kernel
theorem e_G_lookAtApplication_4 {a0 a2 : Option Value} : q_G_lookAtApplication S (f + 1) 4 [a0, some (.int x), a2] st h = (q_G_lookAtApplication S f 5 [a0, some (.int x), a2] (.int x :: st) h) := by rw [q_G_lookAtApplication, hz_w_at d_G_lookAtApplication_4]; rfl
theorem d_G_lookAtApplication_5 : decode c_G_lookAtApplication 5 = .ok (.iaload, 1) := by decide +kernel
theorem e_G_lookAtApplication_5 : q_G_lookAtApplication S (f + 1) 5 L (.int x :: .ref i :: st) h = (hz_ea zKT hz_kI h i x fun v => q_G_lookAtApplication S f 6 L (v :: st) h) := by rw [q_G_lookAtApplication, hz_w_at d_G_lookAtApplication_5]; rfl
theorem d_G_lookAtApplication_6 : decode c_G_lookAtApplication 6 = .ok (.istore_n 2, 1) := by decide +kernel
theorem e_G_lookAtApplication_6 {a0 a1 a2 : Option Value} : q_G_lookAtApplication S (f + 1) 6 [a0, a1, a2] (.int x :: st) h = (q_G_lookAtApplication S f 7 [a0, a1, some (.int x)] st h) := by rw [q_G_lookAtApplication, hz_w_at d_G_lookAtApplication_6]; rfl
theorem d_G_lookAtApplication_7 : decode c_G_lookAtApplication 7 = .ok (.aload_n 0, 1) := by decide +kernel
theorem e_G_lookAtApplication_7 {a1 a2 : Option Value} : q_G_lookAtApplication S (f + 1) 7 [some (.ref i), a1, a2] st h = (q_G_lookAtApplication S f 8 [some (.ref i), a1, a2] (.ref i :: st) h) := by rw [q_G_lookAtApplication, hz_w_at d_G_lookAtApplication_7]; rfl
theorem e_G_lookAtApplication_7n {a1 a2 : Option Value} : q_G_lookAtApplication S (f + 1) 7 [some .null, a1, a2] st h = (q_G_lookAtApplication S f 8 [some .null, a1, a2] (.null :: st) h) := by rw [q_G_lookAtApplication, hz_w_at d_G_lookAtApplication_7]; rfl
theorem d_G_lookAtApplication_8 : decode c_G_lookAtApplication 8 = .ok (.iload_n 2, 1) := by decide +kernel
theorem e_G_lookAtApplication_8 {a0 a1 : Option Value} : q_G_lookAtApplication S (f + 1) 8 [a0, a1, some (.int x)] st h = (q_G_lookAtApplication S f 9 [a0, a1, some (.int x)] (.int x :: st) h) := by rw [q_G_lookAtApplication, hz_w_at d_G_lookAtApplication_8]; rfl
theorem d_G_lookAtApplication_9 : decode c_G_lookAtApplication 9 = .ok (.invokevirtual 61, 3) := by decide +kernel
theorem e_G_lookAtApplication_9 : q_G_lookAtApplication S (f + 1) 9 L st h = (S 9 L st h) := by rw [q_G_lookAtApplication, hz_w_at d_G_lookAtApplication_9]; rfl
theorem d_G_lookAtApplication_12 : decode c_G_lookAtApplication 12 = .ok (.ifCond .ne 4, 3) := by decide +kernel
theorem e_G_lookAtApplication_12 : q_G_lookAtApplication S (f + 1) 12 L (.int x :: st) h = ((¬ x.toInt = 0 → q_G_lookAtApplication S f 16 L st h) ∧ (¬ (¬ x.toInt = 0) → q_G_lookAtApplication S f 15 L st h)) := by rw [q_G_lookAtApplication, hz_w_at d_G_lookAtApplication_12]; rfl
theorem d_G_lookAtApplication_15 : decode c_G_lookAtApplication 15 = .ok (.return_, 1) := by decide +kernel
theorem e_G_lookAtApplication_15 : q_G_lookAtApplication S (f + 1) 15 L st h = (S 15 L st h) := by rw [q_G_lookAtApplication, hz_w_at d_G_lookAtApplication_15]; rfl
theorem d_G_lookAtApplication_16 : decode c_G_lookAtApplication 16 = .ok (.aload_n 0, 1) := by decide +kernel
theorem e_G_lookAtApplication_16 {a1 a2 : Option Value} : q_G_lookAtApplication S (f + 1) 16 [some (.ref i), a1, a2] st h = (q_G_lookAtApplication S f 17 [some (.ref i), a1, a2] (.ref i :: st) h) := by rw [q_G_lookAtApplication, hz_w_at d_G_lookAtApplication_16]; rfl
theorem e_G_lookAtApplication_16n {a1 a2 : Option Value} : q_G_lookAtApplication S (f + 1) 16 [some .null, a1, a2] st h = (q_G_lookAtApplication S f 17 [some .null, a1, a2] (.null :: st) h) := by rw [q_G_lookAtApplication, hz_w_at d_G_lookAtApplication_16]; rfl
theorem d_G_lookAtApplication_17 : decode c_G_lookAtApplication 17 = .ok (.aload_n 0, 1) := by decide +kernel
theorem e_G_lookAtApplication_17 {a1 a2 : Option Value} : q_G_lookAtApplication S (f + 1) 17 [some (.ref i), a1, a2] st h = (q_G_lookAtApplication S f 18 [some (.ref i), a1, a2] (.ref i :: st) h) := by rw [q_G_lookAtApplication, hz_w_at d_G_lookAtApplication_17]; rfl
theorem e_G_lookAtApplication_17n {a1 a2 : Option Value} : q_G_lookAtApplication S (f + 1) 17 [some .null, a1, a2] st h = (q_G_lookAtApplication S f 18 [some .null, a1, a2] (.null :: st) h) := by rw [q_G_lookAtApplication, hz_w_at d_G_lookAtApplication_17]; rfl
theorem d_G_lookAtApplication_18 : decode c_G_lookAtApplication 18 = .ok (.getfield 36, 3) := by decide +kernel
theorem e_G_lookAtApplication_18 : q_G_lookAtApplication S (f + 1) 18 L (.ref i :: st) h = (hz_rd h i 1 7 fun v => q_G_lookAtApplication S f 21 L (v :: st) h) := by rw [q_G_lookAtApplication, hz_w_at d_G_lookAtApplication_18]; rfl
theorem d_G_lookAtApplication_21 : decode c_G_lookAtApplication 21 = .ok (.iload_n 1, 1) := by decide +kernel
theorem e_G_lookAtApplication_21 {a0 a2 : Option Value} : q_G_lookAtApplication S (f + 1) 21 [a0, some (.int x), a2] st h = (q_G_lookAtApplication S f 22 [a0, some (.int x), a2] (.int x :: st) h) := by rw [q_G_lookAtApplication, hz_w_at d_G_lookAtApplication_21]; rfl
theorem d_G_lookAtApplication_22 : decode c_G_lookAtApplication 22 = .ok (.iaload, 1) := by decide +kernel
theorem e_G_lookAtApplication_22 : q_G_lookAtApplication S (f + 1) 22 L (.int x :: .ref i :: st) h = (hz_ea zKT hz_kI h i x fun v => q_G_lookAtApplication S f 23 L (v :: st) h) := by rw [q_G_lookAtApplication, hz_w_at d_G_lookAtApplication_22]; rfl
theorem d_G_lookAtApplication_23 : decode c_G_lookAtApplication 23 = .ok (.invokevirtual 70, 3) := by decide +kernel
theorem e_G_lookAtApplication_23 : q_G_lookAtApplication S (f + 1) 23 L st h = (S 23 L st h) := by rw [q_G_lookAtApplication, hz_w_at d_G_lookAtApplication_23]; rfl
theorem d_G_lookAtApplication_26 : decode c_G_lookAtApplication 26 = .ok (.iconst (-1), 1) := by decide +kernel
theorem e_G_lookAtApplication_26 : q_G_lookAtApplication S (f + 1) 26 L st h = (q_G_lookAtApplication S f 27 L (.int (hz_n (-1)) :: st) h) := by rw [q_G_lookAtApplication, hz_w_at d_G_lookAtApplication_26]; rfl
theorem d_G_lookAtApplication_27 : decode c_G_lookAtApplication 27 = .ok (.if_icmp .ne 23, 3) := by decide +kernel
theorem e_G_lookAtApplication_27 : q_G_lookAtApplication S (f + 1) 27 L (.int y :: .int x :: st) h = ((¬ x.toInt = y.toInt → q_G_lookAtApplication S f 50 L st h) ∧ (¬ (¬ x.toInt = y.toInt) → q_G_lookAtApplication S f 30 L st h)) := by rw [q_G_lookAtApplication, hz_w_at d_G_lookAtApplication_27]; rfl
theorem d_G_lookAtApplication_30 : decode c_G_lookAtApplication 30 = .ok (.aload_n 0, 1) := by decide +kernel
theorem e_G_lookAtApplication_30 {a1 a2 : Option Value} : q_G_lookAtApplication S (f + 1) 30 [some (.ref i), a1, a2] st h = (q_G_lookAtApplication S f 31 [some (.ref i), a1, a2] (.ref i :: st) h) := by rw [q_G_lookAtApplication, hz_w_at d_G_lookAtApplication_30]; rfl
theorem e_G_lookAtApplication_30n {a1 a2 : Option Value} : q_G_lookAtApplication S (f + 1) 30 [some .null, a1, a2] st h = (q_G_lookAtApplication S f 31 [some .null, a1, a2] (.null :: st) h) := by rw [q_G_lookAtApplication, hz_w_at d_G_lookAtApplication_30]; rfl
theorem d_G_lookAtApplication_31 : decode c_G_lookAtApplication 31 = .ok (.iload_n 1, 1) := by decide +kernel
theorem e_G_lookAtApplication_31 {a0 a2 : Option Value} : q_G_lookAtApplication S (f + 1) 31 [a0, some (.int x), a2] st h = (q_G_lookAtApplication S f 32 [a0, some (.int x), a2] (.int x :: st) h) := by rw [q_G_lookAtApplication, hz_w_at d_G_lookAtApplication_31]; rfl
theorem d_G_lookAtApplication_32 : decode c_G_lookAtApplication 32 = .ok (.aload_n 0, 1) := by decide +kernel
theorem e_G_lookAtApplication_32 {a1 a2 : Option Value} : q_G_lookAtApplication S (f + 1) 32 [some (.ref i), a1, a2] st h = (q_G_lookAtApplication S f 33 [some (.ref i), a1, a2] (.ref i :: st) h) := by rw [q_G_lookAtApplication, hz_w_at d_G_lookAtApplication_32]; rfl
theorem e_G_lookAtApplication_32n {a1 a2 : Option Value} : q_G_lookAtApplication S (f + 1) 32 [some .null, a1, a2] st h = (q_G_lookAtApplication S f 33 [some .null, a1, a2] (.null :: st) h) := by rw [q_G_lookAtApplication, hz_w_at d_G_lookAtApplication_32]; rfl
theorem d_G_lookAtApplication_33 : decode c_G_lookAtApplication 33 = .ok (.getfield 24, 3) := by decide +kernel
theorem e_G_lookAtApplication_33 : q_G_lookAtApplication S (f + 1) 33 L (.ref i :: st) h = (hz_rd h i 1 3 fun v => q_G_lookAtApplication S f 36 L (v :: st) h) := by rw [q_G_lookAtApplication, hz_w_at d_G_lookAtApplication_33]; rfl
theorem d_G_lookAtApplication_36 : decode c_G_lookAtApplication 36 = .ok (.iload_n 2, 1) := by decide +kernel
theorem e_G_lookAtApplication_36 {a0 a1 : Option Value} : q_G_lookAtApplication S (f + 1) 36 [a0, a1, some (.int x)] st h = (q_G_lookAtApplication S f 37 [a0, a1, some (.int x)] (.int x :: st) h) := by rw [q_G_lookAtApplication, hz_w_at d_G_lookAtApplication_36]; rfl
theorem d_G_lookAtApplication_37 : decode c_G_lookAtApplication 37 = .ok (.iaload, 1) := by decide +kernel
theorem e_G_lookAtApplication_37 : q_G_lookAtApplication S (f + 1) 37 L (.int x :: .ref i :: st) h = (hz_ea zKT hz_kI h i x fun v => q_G_lookAtApplication S f 38 L (v :: st) h) := by rw [q_G_lookAtApplication, hz_w_at d_G_lookAtApplication_37]; rfl
theorem d_G_lookAtApplication_38 : decode c_G_lookAtApplication 38 = .ok (.aload_n 0, 1) := by decide +kernel
theorem e_G_lookAtApplication_38 {a1 a2 : Option Value} : q_G_lookAtApplication S (f + 1) 38 [some (.ref i), a1, a2] st h = (q_G_lookAtApplication S f 39 [some (.ref i), a1, a2] (.ref i :: st) h) := by rw [q_G_lookAtApplication, hz_w_at d_G_lookAtApplication_38]; rfl
theorem e_G_lookAtApplication_38n {a1 a2 : Option Value} : q_G_lookAtApplication S (f + 1) 38 [some .null, a1, a2] st h = (q_G_lookAtApplication S f 39 [some .null, a1, a2] (.null :: st) h) := by rw [q_G_lookAtApplication, hz_w_at d_G_lookAtApplication_38]; rfl
theorem d_G_lookAtApplication_39 : decode c_G_lookAtApplication 39 = .ok (.getfield 27, 3) := by decide +kernel
theorem e_G_lookAtApplication_39 : q_G_lookAtApplication S (f + 1) 39 L (.ref i :: st) h = (hz_rd h i 1 4 fun v => q_G_lookAtApplication S f 42 L (v :: st) h) := by rw [q_G_lookAtApplication, hz_w_at d_G_lookAtApplication_39]; rfl
theorem d_G_lookAtApplication_42 : decode c_G_lookAtApplication 42 = .ok (.iload_n 2, 1) := by decide +kernel
theorem e_G_lookAtApplication_42 {a0 a1 : Option Value} : q_G_lookAtApplication S (f + 1) 42 [a0, a1, some (.int x)] st h = (q_G_lookAtApplication S f 43 [a0, a1, some (.int x)] (.int x :: st) h) := by rw [q_G_lookAtApplication, hz_w_at d_G_lookAtApplication_42]; rfl
theorem d_G_lookAtApplication_43 : decode c_G_lookAtApplication 43 = .ok (.iaload, 1) := by decide +kernel
theorem e_G_lookAtApplication_43 : q_G_lookAtApplication S (f + 1) 43 L (.int x :: .ref i :: st) h = (hz_ea zKT hz_kI h i x fun v => q_G_lookAtApplication S f 44 L (v :: st) h) := by rw [q_G_lookAtApplication, hz_w_at d_G_lookAtApplication_43]; rfl
theorem d_G_lookAtApplication_44 : decode c_G_lookAtApplication 44 = .ok (.invokevirtual 74, 3) := by decide +kernel
theorem e_G_lookAtApplication_44 : q_G_lookAtApplication S (f + 1) 44 L st h = (S 44 L st h) := by rw [q_G_lookAtApplication, hz_w_at d_G_lookAtApplication_44]; rfl
theorem d_G_lookAtApplication_47 : decode c_G_lookAtApplication 47 = .ok (.goto 33, 3) := by decide +kernel
theorem e_G_lookAtApplication_47 : q_G_lookAtApplication S (f + 1) 47 L st h = (q_G_lookAtApplication S f 80 L st h) := by rw [q_G_lookAtApplication, hz_w_at d_G_lookAtApplication_47]; rfl
theorem d_G_lookAtApplication_50 : decode c_G_lookAtApplication 50 = .ok (.aload_n 0, 1) := by decide +kernel
theorem e_G_lookAtApplication_50 {a1 a2 : Option Value} : q_G_lookAtApplication S (f + 1) 50 [some (.ref i), a1, a2] st h = (q_G_lookAtApplication S f 51 [some (.ref i), a1, a2] (.ref i :: st) h) := by rw [q_G_lookAtApplication, hz_w_at d_G_lookAtApplication_50]; rfl
theorem e_G_lookAtApplication_50n {a1 a2 : Option Value} : q_G_lookAtApplication S (f + 1) 50 [some .null, a1, a2] st h = (q_G_lookAtApplication S f 51 [some .null, a1, a2] (.null :: st) h) := by rw [q_G_lookAtApplication, hz_w_at d_G_lookAtApplication_50]; rfl
theorem d_G_lookAtApplication_51 : decode c_G_lookAtApplication 51 = .ok (.getfield 24, 3) := by decide +kernel
theorem e_G_lookAtApplication_51 : q_G_lookAtApplication S (f + 1) 51 L (.ref i :: st) h = (hz_rd h i 1 3 fun v => q_G_lookAtApplication S f 54 L (v :: st) h) := by rw [q_G_lookAtApplication, hz_w_at d_G_lookAtApplication_51]; rfl
theorem d_G_lookAtApplication_54 : decode c_G_lookAtApplication 54 = .ok (.iload_n 2, 1) := by decide +kernel
theorem e_G_lookAtApplication_54 {a0 a1 : Option Value} : q_G_lookAtApplication S (f + 1) 54 [a0, a1, some (.int x)] st h = (q_G_lookAtApplication S f 55 [a0, a1, some (.int x)] (.int x :: st) h) := by rw [q_G_lookAtApplication, hz_w_at d_G_lookAtApplication_54]; rfl
theorem d_G_lookAtApplication_55 : decode c_G_lookAtApplication 55 = .ok (.iaload, 1) := by decide +kernel
theorem e_G_lookAtApplication_55 : q_G_lookAtApplication S (f + 1) 55 L (.int x :: .ref i :: st) h = (hz_ea zKT hz_kI h i x fun v => q_G_lookAtApplication S f 56 L (v :: st) h) := by rw [q_G_lookAtApplication, hz_w_at d_G_lookAtApplication_55]; rfl
theorem d_G_lookAtApplication_56 : decode c_G_lookAtApplication 56 = .ok (.iconst 5, 1) := by decide +kernel
theorem e_G_lookAtApplication_56 : q_G_lookAtApplication S (f + 1) 56 L st h = (q_G_lookAtApplication S f 57 L (.int (hz_n 5) :: st) h) := by rw [q_G_lookAtApplication, hz_w_at d_G_lookAtApplication_56]; rfl
theorem d_G_lookAtApplication_57 : decode c_G_lookAtApplication 57 = .ok (.if_icmp .ne 17, 3) := by decide +kernel
theorem e_G_lookAtApplication_57 : q_G_lookAtApplication S (f + 1) 57 L (.int y :: .int x :: st) h = ((¬ x.toInt = y.toInt → q_G_lookAtApplication S f 74 L st h) ∧ (¬ (¬ x.toInt = y.toInt) → q_G_lookAtApplication S f 60 L st h)) := by rw [q_G_lookAtApplication, hz_w_at d_G_lookAtApplication_57]; rfl
theorem d_G_lookAtApplication_60 : decode c_G_lookAtApplication 60 = .ok (.aload_n 0, 1) := by decide +kernel
theorem e_G_lookAtApplication_60 {a1 a2 : Option Value} : q_G_lookAtApplication S (f + 1) 60 [some (.ref i), a1, a2] st h = (q_G_lookAtApplication S f 61 [some (.ref i), a1, a2] (.ref i :: st) h) := by rw [q_G_lookAtApplication, hz_w_at d_G_lookAtApplication_60]; rfl
theorem e_G_lookAtApplication_60n {a1 a2 : Option Value} : q_G_lookAtApplication S (f + 1) 60 [some .null, a1, a2] st h = (q_G_lookAtApplication S f 61 [some .null, a1, a2] (.null :: st) h) := by rw [q_G_lookAtApplication, hz_w_at d_G_lookAtApplication_60]; rfl
theorem d_G_lookAtApplication_61 : decode c_G_lookAtApplication 61 = .ok (.iload_n 1, 1) := by decide +kernel
theorem e_G_lookAtApplication_61 {a0 a2 : Option Value} : q_G_lookAtApplication S (f + 1) 61 [a0, some (.int x), a2] st h = (q_G_lookAtApplication S f 62 [a0, some (.int x), a2] (.int x :: st) h) := by rw [q_G_lookAtApplication, hz_w_at d_G_lookAtApplication_61]; rfl
theorem d_G_lookAtApplication_62 : decode c_G_lookAtApplication 62 = .ok (.aload_n 0, 1) := by decide +kernel
theorem e_G_lookAtApplication_62 {a1 a2 : Option Value} : q_G_lookAtApplication S (f + 1) 62 [some (.ref i), a1, a2] st h = (q_G_lookAtApplication S f 63 [some (.ref i), a1, a2] (.ref i :: st) h) := by rw [q_G_lookAtApplication, hz_w_at d_G_lookAtApplication_62]; rfl
theorem e_G_lookAtApplication_62n {a1 a2 : Option Value} : q_G_lookAtApplication S (f + 1) 62 [some .null, a1, a2] st h = (q_G_lookAtApplication S f 63 [some .null, a1, a2] (.null :: st) h) := by rw [q_G_lookAtApplication, hz_w_at d_G_lookAtApplication_62]; rfl
theorem d_G_lookAtApplication_63 : decode c_G_lookAtApplication 63 = .ok (.getfield 27, 3) := by decide +kernel
theorem e_G_lookAtApplication_63 : q_G_lookAtApplication S (f + 1) 63 L (.ref i :: st) h = (hz_rd h i 1 4 fun v => q_G_lookAtApplication S f 66 L (v :: st) h) := by rw [q_G_lookAtApplication, hz_w_at d_G_lookAtApplication_63]; rfl
theorem d_G_lookAtApplication_66 : decode c_G_lookAtApplication 66 = .ok (.iload_n 2, 1) := by decide +kernel
theorem e_G_lookAtApplication_66 {a0 a1 : Option Value} : q_G_lookAtApplication S (f + 1) 66 [a0, a1, some (.int x)] st h = (q_G_lookAtApplication S f 67 [a0, a1, some (.int x)] (.int x :: st) h) := by rw [q_G_lookAtApplication, hz_w_at d_G_lookAtApplication_66]; rfl
theorem d_G_lookAtApplication_67 : decode c_G_lookAtApplication 67 = .ok (.iaload, 1) := by decide +kernel
theorem e_G_lookAtApplication_67 : q_G_lookAtApplication S (f + 1) 67 L (.int x :: .ref i :: st) h = (hz_ea zKT hz_kI h i x fun v => q_G_lookAtApplication S f 68 L (v :: st) h) := by rw [q_G_lookAtApplication, hz_w_at d_G_lookAtApplication_67]; rfl
theorem d_G_lookAtApplication_68 : decode c_G_lookAtApplication 68 = .ok (.invokevirtual 120, 3) := by decide +kernel
theorem e_G_lookAtApplication_68 : q_G_lookAtApplication S (f + 1) 68 L st h = (S 68 L st h) := by rw [q_G_lookAtApplication, hz_w_at d_G_lookAtApplication_68]; rfl
theorem d_G_lookAtApplication_71 : decode c_G_lookAtApplication 71 = .ok (.goto 9, 3) := by decide +kernel
theorem e_G_lookAtApplication_71 : q_G_lookAtApplication S (f + 1) 71 L st h = (q_G_lookAtApplication S f 80 L st h) := by rw [q_G_lookAtApplication, hz_w_at d_G_lookAtApplication_71]; rfl
theorem d_G_lookAtApplication_74 : decode c_G_lookAtApplication 74 = .ok (.aload_n 0, 1) := by decide +kernel
theorem e_G_lookAtApplication_74 {a1 a2 : Option Value} : q_G_lookAtApplication S (f + 1) 74 [some (.ref i), a1, a2] st h = (q_G_lookAtApplication S f 75 [some (.ref i), a1, a2] (.ref i :: st) h) := by rw [q_G_lookAtApplication, hz_w_at d_G_lookAtApplication_74]; rfl
theorem e_G_lookAtApplication_74n {a1 a2 : Option Value} : q_G_lookAtApplication S (f + 1) 74 [some .null, a1, a2] st h = (q_G_lookAtApplication S f 75 [some .null, a1, a2] (.null :: st) h) := by rw [q_G_lookAtApplication, hz_w_at d_G_lookAtApplication_74]; rfl
theorem d_G_lookAtApplication_75 : decode c_G_lookAtApplication 75 = .ok (.bipush (-3), 2) := by decide +kernel
theorem e_G_lookAtApplication_75 : q_G_lookAtApplication S (f + 1) 75 L st h = (q_G_lookAtApplication S f 77 L (.int (hz_n (-3)) :: st) h) := by rw [q_G_lookAtApplication, hz_w_at d_G_lookAtApplication_75]; rfl
theorem d_G_lookAtApplication_77 : decode c_G_lookAtApplication 77 = .ok (.putfield 55, 3) := by decide +kernel
theorem e_G_lookAtApplication_77 : q_G_lookAtApplication S (f + 1) 77 L (.int x :: .ref i :: st) h = (hz_wr h i 1 13 (.int x) fun h => q_G_lookAtApplication S f 80 L st h) := by rw [q_G_lookAtApplication, hz_w_at d_G_lookAtApplication_77]; rfl
theorem d_G_lookAtApplication_80 : decode c_G_lookAtApplication 80 = .ok (.return_, 1) := by decide +kernel
theorem e_G_lookAtApplication_80 : q_G_lookAtApplication S (f + 1) 80 L st h = (S 80 L st h) := by rw [q_G_lookAtApplication, hz_w_at d_G_lookAtApplication_80]; rfl
end
abbrev q_G_takeArguments (S : Nat → List (Option Value) → List Value → hz_H → Prop) := hz_w zCl zKT f_G n_G c_G_takeArguments [34] S
section
variable {S : Nat → List (Option Value) → List Value → hz_H → Prop} {f : Nat} {L : List (Option Value)} {st : List Value} {h : hz_H} {x y : Int32} {i j : Nat} {X Y : Int64}
theorem d_G_takeArguments_0 : decode c_G_takeArguments 0 = .ok (.aload_n 0, 1) := by decide +kernel
theorem e_G_takeArguments_0 {a1 a2 a3 a4 a5 a6 : Option Value} : q_G_takeArguments S (f + 1) 0 [some (.ref i), a1, a2, a3, a4, a5, a6] st h = (q_G_takeArguments S f 1 [some (.ref i), a1, a2, a3, a4, a5, a6] (.ref i :: st) h) := by rw [q_G_takeArguments, hz_w_at d_G_takeArguments_0]; rfl
theorem e_G_takeArguments_0n {a1 a2 a3 a4 a5 a6 : Option Value} : q_G_takeArguments S (f + 1) 0 [some .null, a1, a2, a3, a4, a5, a6] st h = (q_G_takeArguments S f 1 [some .null, a1, a2, a3, a4, a5, a6] (.null :: st) h) := by rw [q_G_takeArguments, hz_w_at d_G_takeArguments_0]; rfl
theorem d_G_takeArguments_1 : decode c_G_takeArguments 1 = .ok (.iload_n 2, 1) := by decide +kernel
theorem e_G_takeArguments_1 {a0 a1 a3 a4 a5 a6 : Option Value} : q_G_takeArguments S (f + 1) 1 [a0, a1, some (.int x), a3, a4, a5, a6] st h = (q_G_takeArguments S f 2 [a0, a1, some (.int x), a3, a4, a5, a6] (.int x :: st) h) := by rw [q_G_takeArguments, hz_w_at d_G_takeArguments_1]; rfl
theorem d_G_takeArguments_2 : decode c_G_takeArguments 2 = .ok (.invokevirtual 123, 3) := by decide +kernel
theorem e_G_takeArguments_2 : q_G_takeArguments S (f + 1) 2 L st h = (S 2 L st h) := by rw [q_G_takeArguments, hz_w_at d_G_takeArguments_2]; rfl
theorem d_G_takeArguments_5 : decode c_G_takeArguments 5 = .ok (.istore_n 3, 1) := by decide +kernel
theorem e_G_takeArguments_5 {a0 a1 a2 a3 a4 a5 a6 : Option Value} : q_G_takeArguments S (f + 1) 5 [a0, a1, a2, a3, a4, a5, a6] (.int x :: st) h = (q_G_takeArguments S f 6 [a0, a1, a2, some (.int x), a4, a5, a6] st h) := by rw [q_G_takeArguments, hz_w_at d_G_takeArguments_5]; rfl
theorem d_G_takeArguments_6 : decode c_G_takeArguments 6 = .ok (.aload_n 0, 1) := by decide +kernel
theorem e_G_takeArguments_6 {a1 a2 a3 a4 a5 a6 : Option Value} : q_G_takeArguments S (f + 1) 6 [some (.ref i), a1, a2, a3, a4, a5, a6] st h = (q_G_takeArguments S f 7 [some (.ref i), a1, a2, a3, a4, a5, a6] (.ref i :: st) h) := by rw [q_G_takeArguments, hz_w_at d_G_takeArguments_6]; rfl
theorem e_G_takeArguments_6n {a1 a2 a3 a4 a5 a6 : Option Value} : q_G_takeArguments S (f + 1) 6 [some .null, a1, a2, a3, a4, a5, a6] st h = (q_G_takeArguments S f 7 [some .null, a1, a2, a3, a4, a5, a6] (.null :: st) h) := by rw [q_G_takeArguments, hz_w_at d_G_takeArguments_6]; rfl
theorem d_G_takeArguments_7 : decode c_G_takeArguments 7 = .ok (.iload_n 3, 1) := by decide +kernel
theorem e_G_takeArguments_7 {a0 a1 a2 a4 a5 a6 : Option Value} : q_G_takeArguments S (f + 1) 7 [a0, a1, a2, some (.int x), a4, a5, a6] st h = (q_G_takeArguments S f 8 [a0, a1, a2, some (.int x), a4, a5, a6] (.int x :: st) h) := by rw [q_G_takeArguments, hz_w_at d_G_takeArguments_7]; rfl
theorem d_G_takeArguments_8 : decode c_G_takeArguments 8 = .ok (.invokevirtual 114, 3) := by decide +kernel
theorem e_G_takeArguments_8 : q_G_takeArguments S (f + 1) 8 L st h = (S 8 L st h) := by rw [q_G_takeArguments, hz_w_at d_G_takeArguments_8]; rfl
theorem d_G_takeArguments_11 : decode c_G_takeArguments 11 = .ok (.aload_n 0, 1) := by decide +kernel
theorem e_G_takeArguments_11 {a1 a2 a3 a4 a5 a6 : Option Value} : q_G_takeArguments S (f + 1) 11 [some (.ref i), a1, a2, a3, a4, a5, a6] st h = (q_G_takeArguments S f 12 [some (.ref i), a1, a2, a3, a4, a5, a6] (.ref i :: st) h) := by rw [q_G_takeArguments, hz_w_at d_G_takeArguments_11]; rfl
theorem e_G_takeArguments_11n {a1 a2 a3 a4 a5 a6 : Option Value} : q_G_takeArguments S (f + 1) 11 [some .null, a1, a2, a3, a4, a5, a6] st h = (q_G_takeArguments S f 12 [some .null, a1, a2, a3, a4, a5, a6] (.null :: st) h) := by rw [q_G_takeArguments, hz_w_at d_G_takeArguments_11]; rfl
theorem d_G_takeArguments_12 : decode c_G_takeArguments 12 = .ok (.iload_n 2, 1) := by decide +kernel
theorem e_G_takeArguments_12 {a0 a1 a3 a4 a5 a6 : Option Value} : q_G_takeArguments S (f + 1) 12 [a0, a1, some (.int x), a3, a4, a5, a6] st h = (q_G_takeArguments S f 13 [a0, a1, some (.int x), a3, a4, a5, a6] (.int x :: st) h) := by rw [q_G_takeArguments, hz_w_at d_G_takeArguments_12]; rfl
theorem d_G_takeArguments_13 : decode c_G_takeArguments 13 = .ok (.invokevirtual 126, 3) := by decide +kernel
theorem e_G_takeArguments_13 : q_G_takeArguments S (f + 1) 13 L st h = (S 13 L st h) := by rw [q_G_takeArguments, hz_w_at d_G_takeArguments_13]; rfl
theorem d_G_takeArguments_16 : decode c_G_takeArguments 16 = .ok (.isub, 1) := by decide +kernel
theorem e_G_takeArguments_16 : q_G_takeArguments S (f + 1) 16 L (.int y :: .int x :: st) h = (q_G_takeArguments S f 17 L (.int (x - y) :: st) h) := by rw [q_G_takeArguments, hz_w_at d_G_takeArguments_16]; rfl
theorem d_G_takeArguments_17 : decode c_G_takeArguments 17 = .ok (.istore 4, 2) := by decide +kernel
theorem e_G_takeArguments_17 {a0 a1 a2 a3 a4 a5 a6 : Option Value} : q_G_takeArguments S (f + 1) 17 [a0, a1, a2, a3, a4, a5, a6] (.int x :: st) h = (q_G_takeArguments S f 19 [a0, a1, a2, a3, some (.int x), a5, a6] st h) := by rw [q_G_takeArguments, hz_w_at d_G_takeArguments_17]; rfl
theorem d_G_takeArguments_19 : decode c_G_takeArguments 19 = .ok (.iload_n 2, 1) := by decide +kernel
theorem e_G_takeArguments_19 {a0 a1 a3 a4 a5 a6 : Option Value} : q_G_takeArguments S (f + 1) 19 [a0, a1, some (.int x), a3, a4, a5, a6] st h = (q_G_takeArguments S f 20 [a0, a1, some (.int x), a3, a4, a5, a6] (.int x :: st) h) := by rw [q_G_takeArguments, hz_w_at d_G_takeArguments_19]; rfl
theorem d_G_takeArguments_20 : decode c_G_takeArguments 20 = .ok (.istore 5, 2) := by decide +kernel
theorem e_G_takeArguments_20 {a0 a1 a2 a3 a4 a5 a6 : Option Value} : q_G_takeArguments S (f + 1) 20 [a0, a1, a2, a3, a4, a5, a6] (.int x :: st) h = (q_G_takeArguments S f 22 [a0, a1, a2, a3, a4, some (.int x), a6] st h) := by rw [q_G_takeArguments, hz_w_at d_G_takeArguments_20]; rfl
theorem d_G_takeArguments_22 : decode c_G_takeArguments 22 = .ok (.aload_n 0, 1) := by decide +kernel
theorem e_G_takeArguments_22 {a1 a2 a3 a4 a5 a6 : Option Value} : q_G_takeArguments S (f + 1) 22 [some (.ref i), a1, a2, a3, a4, a5, a6] st h = (q_G_takeArguments S f 23 [some (.ref i), a1, a2, a3, a4, a5, a6] (.ref i :: st) h) := by rw [q_G_takeArguments, hz_w_at d_G_takeArguments_22]; rfl
theorem e_G_takeArguments_22n {a1 a2 a3 a4 a5 a6 : Option Value} : q_G_takeArguments S (f + 1) 22 [some .null, a1, a2, a3, a4, a5, a6] st h = (q_G_takeArguments S f 23 [some .null, a1, a2, a3, a4, a5, a6] (.null :: st) h) := by rw [q_G_takeArguments, hz_w_at d_G_takeArguments_22]; rfl
theorem d_G_takeArguments_23 : decode c_G_takeArguments 23 = .ok (.aload_n 0, 1) := by decide +kernel
theorem e_G_takeArguments_23 {a1 a2 a3 a4 a5 a6 : Option Value} : q_G_takeArguments S (f + 1) 23 [some (.ref i), a1, a2, a3, a4, a5, a6] st h = (q_G_takeArguments S f 24 [some (.ref i), a1, a2, a3, a4, a5, a6] (.ref i :: st) h) := by rw [q_G_takeArguments, hz_w_at d_G_takeArguments_23]; rfl
theorem e_G_takeArguments_23n {a1 a2 a3 a4 a5 a6 : Option Value} : q_G_takeArguments S (f + 1) 23 [some .null, a1, a2, a3, a4, a5, a6] st h = (q_G_takeArguments S f 24 [some .null, a1, a2, a3, a4, a5, a6] (.null :: st) h) := by rw [q_G_takeArguments, hz_w_at d_G_takeArguments_23]; rfl
theorem d_G_takeArguments_24 : decode c_G_takeArguments 24 = .ok (.getfield 36, 3) := by decide +kernel
theorem e_G_takeArguments_24 : q_G_takeArguments S (f + 1) 24 L (.ref i :: st) h = (hz_rd h i 1 7 fun v => q_G_takeArguments S f 27 L (v :: st) h) := by rw [q_G_takeArguments, hz_w_at d_G_takeArguments_24]; rfl
theorem d_G_takeArguments_27 : decode c_G_takeArguments 27 = .ok (.iload_n 1, 1) := by decide +kernel
theorem e_G_takeArguments_27 {a0 a2 a3 a4 a5 a6 : Option Value} : q_G_takeArguments S (f + 1) 27 [a0, some (.int x), a2, a3, a4, a5, a6] st h = (q_G_takeArguments S f 28 [a0, some (.int x), a2, a3, a4, a5, a6] (.int x :: st) h) := by rw [q_G_takeArguments, hz_w_at d_G_takeArguments_27]; rfl
theorem d_G_takeArguments_28 : decode c_G_takeArguments 28 = .ok (.iaload, 1) := by decide +kernel
theorem e_G_takeArguments_28 : q_G_takeArguments S (f + 1) 28 L (.int x :: .ref i :: st) h = (hz_ea zKT hz_kI h i x fun v => q_G_takeArguments S f 29 L (v :: st) h) := by rw [q_G_takeArguments, hz_w_at d_G_takeArguments_28]; rfl
theorem d_G_takeArguments_29 : decode c_G_takeArguments 29 = .ok (.invokevirtual 70, 3) := by decide +kernel
theorem e_G_takeArguments_29 : q_G_takeArguments S (f + 1) 29 L st h = (S 29 L st h) := by rw [q_G_takeArguments, hz_w_at d_G_takeArguments_29]; rfl
theorem d_G_takeArguments_32 : decode c_G_takeArguments 32 = .ok (.istore 6, 2) := by decide +kernel
theorem e_G_takeArguments_32 {a0 a1 a2 a3 a4 a5 a6 : Option Value} : q_G_takeArguments S (f + 1) 32 [a0, a1, a2, a3, a4, a5, a6] (.int x :: st) h = (S 34 [a0, a1, a2, a3, a4, a5, some (.int x)] st h) := by rw [q_G_takeArguments, hz_w_at d_G_takeArguments_32]; rfl
theorem d_G_takeArguments_34 : decode c_G_takeArguments 34 = .ok (.iload 4, 2) := by decide +kernel
theorem e_G_takeArguments_34 {a0 a1 a2 a3 a5 a6 : Option Value} : q_G_takeArguments S (f + 1) 34 [a0, a1, a2, a3, some (.int x), a5, a6] st h = (q_G_takeArguments S f 36 [a0, a1, a2, a3, some (.int x), a5, a6] (.int x :: st) h) := by rw [q_G_takeArguments, hz_w_at d_G_takeArguments_34]; rfl
theorem d_G_takeArguments_36 : decode c_G_takeArguments 36 = .ok (.ifCond .le 44, 3) := by decide +kernel
theorem e_G_takeArguments_36 : q_G_takeArguments S (f + 1) 36 L (.int x :: st) h = ((x.toInt ≤ 0 → q_G_takeArguments S f 80 L st h) ∧ (¬ (x.toInt ≤ 0) → q_G_takeArguments S f 39 L st h)) := by rw [q_G_takeArguments, hz_w_at d_G_takeArguments_36]; rfl
theorem d_G_takeArguments_39 : decode c_G_takeArguments 39 = .ok (.iload 6, 2) := by decide +kernel
theorem e_G_takeArguments_39 {a0 a1 a2 a3 a4 a5 : Option Value} : q_G_takeArguments S (f + 1) 39 [a0, a1, a2, a3, a4, a5, some (.int x)] st h = (q_G_takeArguments S f 41 [a0, a1, a2, a3, a4, a5, some (.int x)] (.int x :: st) h) := by rw [q_G_takeArguments, hz_w_at d_G_takeArguments_39]; rfl
theorem d_G_takeArguments_41 : decode c_G_takeArguments 41 = .ok (.iconst (-1), 1) := by decide +kernel
theorem e_G_takeArguments_41 : q_G_takeArguments S (f + 1) 41 L st h = (q_G_takeArguments S f 42 L (.int (hz_n (-1)) :: st) h) := by rw [q_G_takeArguments, hz_w_at d_G_takeArguments_41]; rfl
theorem d_G_takeArguments_42 : decode c_G_takeArguments 42 = .ok (.if_icmp .eq 38, 3) := by decide +kernel
theorem e_G_takeArguments_42 : q_G_takeArguments S (f + 1) 42 L (.int y :: .int x :: st) h = ((x.toInt = y.toInt → q_G_takeArguments S f 80 L st h) ∧ (¬ (x.toInt = y.toInt) → q_G_takeArguments S f 45 L st h)) := by rw [q_G_takeArguments, hz_w_at d_G_takeArguments_42]; rfl
theorem d_G_takeArguments_45 : decode c_G_takeArguments 45 = .ok (.aload_n 0, 1) := by decide +kernel
theorem e_G_takeArguments_45 {a1 a2 a3 a4 a5 a6 : Option Value} : q_G_takeArguments S (f + 1) 45 [some (.ref i), a1, a2, a3, a4, a5, a6] st h = (q_G_takeArguments S f 46 [some (.ref i), a1, a2, a3, a4, a5, a6] (.ref i :: st) h) := by rw [q_G_takeArguments, hz_w_at d_G_takeArguments_45]; rfl
theorem e_G_takeArguments_45n {a1 a2 a3 a4 a5 a6 : Option Value} : q_G_takeArguments S (f + 1) 45 [some .null, a1, a2, a3, a4, a5, a6] st h = (q_G_takeArguments S f 46 [some .null, a1, a2, a3, a4, a5, a6] (.null :: st) h) := by rw [q_G_takeArguments, hz_w_at d_G_takeArguments_45]; rfl
theorem d_G_takeArguments_46 : decode c_G_takeArguments 46 = .ok (.getfield 30, 3) := by decide +kernel
theorem e_G_takeArguments_46 : q_G_takeArguments S (f + 1) 46 L (.ref i :: st) h = (hz_rd h i 1 5 fun v => q_G_takeArguments S f 49 L (v :: st) h) := by rw [q_G_takeArguments, hz_w_at d_G_takeArguments_46]; rfl
theorem d_G_takeArguments_49 : decode c_G_takeArguments 49 = .ok (.iload 6, 2) := by decide +kernel
theorem e_G_takeArguments_49 {a0 a1 a2 a3 a4 a5 : Option Value} : q_G_takeArguments S (f + 1) 49 [a0, a1, a2, a3, a4, a5, some (.int x)] st h = (q_G_takeArguments S f 51 [a0, a1, a2, a3, a4, a5, some (.int x)] (.int x :: st) h) := by rw [q_G_takeArguments, hz_w_at d_G_takeArguments_49]; rfl
theorem d_G_takeArguments_51 : decode c_G_takeArguments 51 = .ok (.iload 5, 2) := by decide +kernel
theorem e_G_takeArguments_51 {a0 a1 a2 a3 a4 a6 : Option Value} : q_G_takeArguments S (f + 1) 51 [a0, a1, a2, a3, a4, some (.int x), a6] st h = (q_G_takeArguments S f 53 [a0, a1, a2, a3, a4, some (.int x), a6] (.int x :: st) h) := by rw [q_G_takeArguments, hz_w_at d_G_takeArguments_51]; rfl
theorem d_G_takeArguments_53 : decode c_G_takeArguments 53 = .ok (.iastore, 1) := by decide +kernel
theorem e_G_takeArguments_53 : q_G_takeArguments S (f + 1) 53 L (.int y :: .int x :: .ref i :: st) h = (hz_es zKT hz_kI h i x (.int y) fun h => q_G_takeArguments S f 54 L st h) := by rw [q_G_takeArguments, hz_w_at d_G_takeArguments_53]; rfl
theorem d_G_takeArguments_54 : decode c_G_takeArguments 54 = .ok (.iload 6, 2) := by decide +kernel
theorem e_G_takeArguments_54 {a0 a1 a2 a3 a4 a5 : Option Value} : q_G_takeArguments S (f + 1) 54 [a0, a1, a2, a3, a4, a5, some (.int x)] st h = (q_G_takeArguments S f 56 [a0, a1, a2, a3, a4, a5, some (.int x)] (.int x :: st) h) := by rw [q_G_takeArguments, hz_w_at d_G_takeArguments_54]; rfl
theorem d_G_takeArguments_56 : decode c_G_takeArguments 56 = .ok (.istore 5, 2) := by decide +kernel
theorem e_G_takeArguments_56 {a0 a1 a2 a3 a4 a5 a6 : Option Value} : q_G_takeArguments S (f + 1) 56 [a0, a1, a2, a3, a4, a5, a6] (.int x :: st) h = (q_G_takeArguments S f 58 [a0, a1, a2, a3, a4, some (.int x), a6] st h) := by rw [q_G_takeArguments, hz_w_at d_G_takeArguments_56]; rfl
theorem d_G_takeArguments_58 : decode c_G_takeArguments 58 = .ok (.aload_n 0, 1) := by decide +kernel
theorem e_G_takeArguments_58 {a1 a2 a3 a4 a5 a6 : Option Value} : q_G_takeArguments S (f + 1) 58 [some (.ref i), a1, a2, a3, a4, a5, a6] st h = (q_G_takeArguments S f 59 [some (.ref i), a1, a2, a3, a4, a5, a6] (.ref i :: st) h) := by rw [q_G_takeArguments, hz_w_at d_G_takeArguments_58]; rfl
theorem e_G_takeArguments_58n {a1 a2 a3 a4 a5 a6 : Option Value} : q_G_takeArguments S (f + 1) 58 [some .null, a1, a2, a3, a4, a5, a6] st h = (q_G_takeArguments S f 59 [some .null, a1, a2, a3, a4, a5, a6] (.null :: st) h) := by rw [q_G_takeArguments, hz_w_at d_G_takeArguments_58]; rfl
theorem d_G_takeArguments_59 : decode c_G_takeArguments 59 = .ok (.getfield 36, 3) := by decide +kernel
theorem e_G_takeArguments_59 : q_G_takeArguments S (f + 1) 59 L (.ref i :: st) h = (hz_rd h i 1 7 fun v => q_G_takeArguments S f 62 L (v :: st) h) := by rw [q_G_takeArguments, hz_w_at d_G_takeArguments_59]; rfl
theorem d_G_takeArguments_62 : decode c_G_takeArguments 62 = .ok (.iload_n 1, 1) := by decide +kernel
theorem e_G_takeArguments_62 {a0 a2 a3 a4 a5 a6 : Option Value} : q_G_takeArguments S (f + 1) 62 [a0, some (.int x), a2, a3, a4, a5, a6] st h = (q_G_takeArguments S f 63 [a0, some (.int x), a2, a3, a4, a5, a6] (.int x :: st) h) := by rw [q_G_takeArguments, hz_w_at d_G_takeArguments_62]; rfl
theorem d_G_takeArguments_63 : decode c_G_takeArguments 63 = .ok (.iload 6, 2) := by decide +kernel
theorem e_G_takeArguments_63 {a0 a1 a2 a3 a4 a5 : Option Value} : q_G_takeArguments S (f + 1) 63 [a0, a1, a2, a3, a4, a5, some (.int x)] st h = (q_G_takeArguments S f 65 [a0, a1, a2, a3, a4, a5, some (.int x)] (.int x :: st) h) := by rw [q_G_takeArguments, hz_w_at d_G_takeArguments_63]; rfl
theorem d_G_takeArguments_65 : decode c_G_takeArguments 65 = .ok (.iastore, 1) := by decide +kernel
theorem e_G_takeArguments_65 : q_G_takeArguments S (f + 1) 65 L (.int y :: .int x :: .ref i :: st) h = (hz_es zKT hz_kI h i x (.int y) fun h => q_G_takeArguments S f 66 L st h) := by rw [q_G_takeArguments, hz_w_at d_G_takeArguments_65]; rfl
theorem d_G_takeArguments_66 : decode c_G_takeArguments 66 = .ok (.iinc 4 (-1), 3) := by decide +kernel
theorem e_G_takeArguments_66 {a0 a1 a2 a3 a5 a6 : Option Value} : q_G_takeArguments S (f + 1) 66 [a0, a1, a2, a3, some (.int x), a5, a6] st h = (q_G_takeArguments S f 69 [a0, a1, a2, a3, some (.int (x + hz_n (-1))), a5, a6] st h) := by rw [q_G_takeArguments, hz_w_at d_G_takeArguments_66]; rfl
theorem d_G_takeArguments_69 : decode c_G_takeArguments 69 = .ok (.aload_n 0, 1) := by decide +kernel
theorem e_G_takeArguments_69 {a1 a2 a3 a4 a5 a6 : Option Value} : q_G_takeArguments S (f + 1) 69 [some (.ref i), a1, a2, a3, a4, a5, a6] st h = (q_G_takeArguments S f 70 [some (.ref i), a1, a2, a3, a4, a5, a6] (.ref i :: st) h) := by rw [q_G_takeArguments, hz_w_at d_G_takeArguments_69]; rfl
theorem e_G_takeArguments_69n {a1 a2 a3 a4 a5 a6 : Option Value} : q_G_takeArguments S (f + 1) 69 [some .null, a1, a2, a3, a4, a5, a6] st h = (q_G_takeArguments S f 70 [some .null, a1, a2, a3, a4, a5, a6] (.null :: st) h) := by rw [q_G_takeArguments, hz_w_at d_G_takeArguments_69]; rfl
theorem d_G_takeArguments_70 : decode c_G_takeArguments 70 = .ok (.iload 6, 2) := by decide +kernel
theorem e_G_takeArguments_70 {a0 a1 a2 a3 a4 a5 : Option Value} : q_G_takeArguments S (f + 1) 70 [a0, a1, a2, a3, a4, a5, some (.int x)] st h = (q_G_takeArguments S f 72 [a0, a1, a2, a3, a4, a5, some (.int x)] (.int x :: st) h) := by rw [q_G_takeArguments, hz_w_at d_G_takeArguments_70]; rfl
theorem d_G_takeArguments_72 : decode c_G_takeArguments 72 = .ok (.invokevirtual 70, 3) := by decide +kernel
theorem e_G_takeArguments_72 : q_G_takeArguments S (f + 1) 72 L st h = (S 72 L st h) := by rw [q_G_takeArguments, hz_w_at d_G_takeArguments_72]; rfl
theorem d_G_takeArguments_75 : decode c_G_takeArguments 75 = .ok (.istore 6, 2) := by decide +kernel
theorem e_G_takeArguments_75 {a0 a1 a2 a3 a4 a5 a6 : Option Value} : q_G_takeArguments S (f + 1) 75 [a0, a1, a2, a3, a4, a5, a6] (.int x :: st) h = (q_G_takeArguments S f 77 [a0, a1, a2, a3, a4, a5, some (.int x)] st h) := by rw [q_G_takeArguments, hz_w_at d_G_takeArguments_75]; rfl
theorem d_G_takeArguments_77 : decode c_G_takeArguments 77 = .ok (.goto (-43), 3) := by decide +kernel
theorem e_G_takeArguments_77 : q_G_takeArguments S (f + 1) 77 L st h = (S 34 L st h) := by rw [q_G_takeArguments, hz_w_at d_G_takeArguments_77]; rfl
theorem d_G_takeArguments_80 : decode c_G_takeArguments 80 = .ok (.iload 4, 2) := by decide +kernel
theorem e_G_takeArguments_80 {a0 a1 a2 a3 a5 a6 : Option Value} : q_G_takeArguments S (f + 1) 80 [a0, a1, a2, a3, some (.int x), a5, a6] st h = (q_G_takeArguments S f 82 [a0, a1, a2, a3, some (.int x), a5, a6] (.int x :: st) h) := by rw [q_G_takeArguments, hz_w_at d_G_takeArguments_80]; rfl
theorem d_G_takeArguments_82 : decode c_G_takeArguments 82 = .ok (.ifCond .le 14, 3) := by decide +kernel
theorem e_G_takeArguments_82 : q_G_takeArguments S (f + 1) 82 L (.int x :: st) h = ((x.toInt ≤ 0 → q_G_takeArguments S f 96 L st h) ∧ (¬ (x.toInt ≤ 0) → q_G_takeArguments S f 85 L st h)) := by rw [q_G_takeArguments, hz_w_at d_G_takeArguments_82]; rfl
theorem d_G_takeArguments_85 : decode c_G_takeArguments 85 = .ok (.aload_n 0, 1) := by decide +kernel
theorem e_G_takeArguments_85 {a1 a2 a3 a4 a5 a6 : Option Value} : q_G_takeArguments S (f + 1) 85 [some (.ref i), a1, a2, a3, a4, a5, a6] st h = (q_G_takeArguments S f 86 [some (.ref i), a1, a2, a3, a4, a5, a6] (.ref i :: st) h) := by rw [q_G_takeArguments, hz_w_at d_G_takeArguments_85]; rfl
theorem e_G_takeArguments_85n {a1 a2 a3 a4 a5 a6 : Option Value} : q_G_takeArguments S (f + 1) 85 [some .null, a1, a2, a3, a4, a5, a6] st h = (q_G_takeArguments S f 86 [some .null, a1, a2, a3, a4, a5, a6] (.null :: st) h) := by rw [q_G_takeArguments, hz_w_at d_G_takeArguments_85]; rfl
theorem d_G_takeArguments_86 : decode c_G_takeArguments 86 = .ok (.iload_n 1, 1) := by decide +kernel
theorem e_G_takeArguments_86 {a0 a2 a3 a4 a5 a6 : Option Value} : q_G_takeArguments S (f + 1) 86 [a0, some (.int x), a2, a3, a4, a5, a6] st h = (q_G_takeArguments S f 87 [a0, some (.int x), a2, a3, a4, a5, a6] (.int x :: st) h) := by rw [q_G_takeArguments, hz_w_at d_G_takeArguments_86]; rfl
theorem d_G_takeArguments_87 : decode c_G_takeArguments 87 = .ok (.iconst 5, 1) := by decide +kernel
theorem e_G_takeArguments_87 : q_G_takeArguments S (f + 1) 87 L st h = (q_G_takeArguments S f 88 L (.int (hz_n 5) :: st) h) := by rw [q_G_takeArguments, hz_w_at d_G_takeArguments_87]; rfl
theorem d_G_takeArguments_88 : decode c_G_takeArguments 88 = .ok (.iload 5, 2) := by decide +kernel
theorem e_G_takeArguments_88 {a0 a1 a2 a3 a4 a6 : Option Value} : q_G_takeArguments S (f + 1) 88 [a0, a1, a2, a3, a4, some (.int x), a6] st h = (q_G_takeArguments S f 90 [a0, a1, a2, a3, a4, some (.int x), a6] (.int x :: st) h) := by rw [q_G_takeArguments, hz_w_at d_G_takeArguments_88]; rfl
theorem d_G_takeArguments_90 : decode c_G_takeArguments 90 = .ok (.invokevirtual 74, 3) := by decide +kernel
theorem e_G_takeArguments_90 : q_G_takeArguments S (f + 1) 90 L st h = (S 90 L st h) := by rw [q_G_takeArguments, hz_w_at d_G_takeArguments_90]; rfl
theorem d_G_takeArguments_93 : decode c_G_takeArguments 93 = .ok (.goto 16, 3) := by decide +kernel
theorem e_G_takeArguments_93 : q_G_takeArguments S (f + 1) 93 L st h = (q_G_takeArguments S f 109 L st h) := by rw [q_G_takeArguments, hz_w_at d_G_takeArguments_93]; rfl
theorem d_G_takeArguments_96 : decode c_G_takeArguments 96 = .ok (.aload_n 0, 1) := by decide +kernel
theorem e_G_takeArguments_96 {a1 a2 a3 a4 a5 a6 : Option Value} : q_G_takeArguments S (f + 1) 96 [some (.ref i), a1, a2, a3, a4, a5, a6] st h = (q_G_takeArguments S f 97 [some (.ref i), a1, a2, a3, a4, a5, a6] (.ref i :: st) h) := by rw [q_G_takeArguments, hz_w_at d_G_takeArguments_96]; rfl
theorem e_G_takeArguments_96n {a1 a2 a3 a4 a5 a6 : Option Value} : q_G_takeArguments S (f + 1) 96 [some .null, a1, a2, a3, a4, a5, a6] st h = (q_G_takeArguments S f 97 [some .null, a1, a2, a3, a4, a5, a6] (.null :: st) h) := by rw [q_G_takeArguments, hz_w_at d_G_takeArguments_96]; rfl
theorem d_G_takeArguments_97 : decode c_G_takeArguments 97 = .ok (.getfield 33, 3) := by decide +kernel
theorem e_G_takeArguments_97 : q_G_takeArguments S (f + 1) 97 L (.ref i :: st) h = (hz_rd h i 1 6 fun v => q_G_takeArguments S f 100 L (v :: st) h) := by rw [q_G_takeArguments, hz_w_at d_G_takeArguments_97]; rfl
theorem d_G_takeArguments_100 : decode c_G_takeArguments 100 = .ok (.iload_n 1, 1) := by decide +kernel
theorem e_G_takeArguments_100 {a0 a2 a3 a4 a5 a6 : Option Value} : q_G_takeArguments S (f + 1) 100 [a0, some (.int x), a2, a3, a4, a5, a6] st h = (q_G_takeArguments S f 101 [a0, some (.int x), a2, a3, a4, a5, a6] (.int x :: st) h) := by rw [q_G_takeArguments, hz_w_at d_G_takeArguments_100]; rfl
theorem d_G_takeArguments_101 : decode c_G_takeArguments 101 = .ok (.aload_n 0, 1) := by decide +kernel
theorem e_G_takeArguments_101 {a1 a2 a3 a4 a5 a6 : Option Value} : q_G_takeArguments S (f + 1) 101 [some (.ref i), a1, a2, a3, a4, a5, a6] st h = (q_G_takeArguments S f 102 [some (.ref i), a1, a2, a3, a4, a5, a6] (.ref i :: st) h) := by rw [q_G_takeArguments, hz_w_at d_G_takeArguments_101]; rfl
theorem e_G_takeArguments_101n {a1 a2 a3 a4 a5 a6 : Option Value} : q_G_takeArguments S (f + 1) 101 [some .null, a1, a2, a3, a4, a5, a6] st h = (q_G_takeArguments S f 102 [some .null, a1, a2, a3, a4, a5, a6] (.null :: st) h) := by rw [q_G_takeArguments, hz_w_at d_G_takeArguments_101]; rfl
theorem d_G_takeArguments_102 : decode c_G_takeArguments 102 = .ok (.iload_n 3, 1) := by decide +kernel
theorem e_G_takeArguments_102 {a0 a1 a2 a4 a5 a6 : Option Value} : q_G_takeArguments S (f + 1) 102 [a0, a1, a2, some (.int x), a4, a5, a6] st h = (q_G_takeArguments S f 103 [a0, a1, a2, some (.int x), a4, a5, a6] (.int x :: st) h) := by rw [q_G_takeArguments, hz_w_at d_G_takeArguments_102]; rfl
theorem d_G_takeArguments_103 : decode c_G_takeArguments 103 = .ok (.iload 5, 2) := by decide +kernel
theorem e_G_takeArguments_103 {a0 a1 a2 a3 a4 a6 : Option Value} : q_G_takeArguments S (f + 1) 103 [a0, a1, a2, a3, a4, some (.int x), a6] st h = (q_G_takeArguments S f 105 [a0, a1, a2, a3, a4, some (.int x), a6] (.int x :: st) h) := by rw [q_G_takeArguments, hz_w_at d_G_takeArguments_103]; rfl
theorem d_G_takeArguments_105 : decode c_G_takeArguments 105 = .ok (.invokevirtual 116, 3) := by decide +kernel
theorem e_G_takeArguments_105 : q_G_takeArguments S (f + 1) 105 L st h = (S 105 L st h) := by rw [q_G_takeArguments, hz_w_at d_G_takeArguments_105]; rfl
theorem d_G_takeArguments_108 : decode c_G_takeArguments 108 = .ok (.iastore, 1) := by decide +kernel
theorem e_G_takeArguments_108 : q_G_takeArguments S (f + 1) 108 L (.int y :: .int x :: .ref i :: st) h = (hz_es zKT hz_kI h i x (.int y) fun h => q_G_takeArguments S f 109 L st h) := by rw [q_G_takeArguments, hz_w_at d_G_takeArguments_108]; rfl
theorem d_G_takeArguments_109 : decode c_G_takeArguments 109 = .ok (.return_, 1) := by decide +kernel
theorem e_G_takeArguments_109 : q_G_takeArguments S (f + 1) 109 L st h = (S 109 L st h) := by rw [q_G_takeArguments, hz_w_at d_G_takeArguments_109]; rfl
end
abbrev q_G_promiseCount (S : Nat → List (Option Value) → List Value → hz_H → Prop) := hz_w zCl zKT f_G n_G c_G_promiseCount [4] S
section
variable {S : Nat → List (Option Value) → List Value → hz_H → Prop} {f : Nat} {L : List (Option Value)} {st : List Value} {h : hz_H} {x y : Int32} {i j : Nat} {X Y : Int64}
theorem d_G_promiseCount_0 : decode c_G_promiseCount 0 = .ok (.iconst 0, 1) := by decide +kernel
theorem e_G_promiseCount_0 : q_G_promiseCount S (f + 1) 0 L st h = (q_G_promiseCount S f 1 L (.int (hz_n 0) :: st) h) := by rw [q_G_promiseCount, hz_w_at d_G_promiseCount_0]; rfl
theorem d_G_promiseCount_1 : decode c_G_promiseCount 1 = .ok (.istore_n 2, 1) := by decide +kernel
theorem e_G_promiseCount_1 {a0 a1 a2 a3 : Option Value} : q_G_promiseCount S (f + 1) 1 [a0, a1, a2, a3] (.int x :: st) h = (q_G_promiseCount S f 2 [a0, a1, some (.int x), a3] st h) := by rw [q_G_promiseCount, hz_w_at d_G_promiseCount_1]; rfl
theorem d_G_promiseCount_2 : decode c_G_promiseCount 2 = .ok (.iload_n 1, 1) := by decide +kernel
theorem e_G_promiseCount_2 {a0 a2 a3 : Option Value} : q_G_promiseCount S (f + 1) 2 [a0, some (.int x), a2, a3] st h = (q_G_promiseCount S f 3 [a0, some (.int x), a2, a3] (.int x :: st) h) := by rw [q_G_promiseCount, hz_w_at d_G_promiseCount_2]; rfl
theorem d_G_promiseCount_3 : decode c_G_promiseCount 3 = .ok (.istore_n 3, 1) := by decide +kernel
theorem e_G_promiseCount_3 {a0 a1 a2 a3 : Option Value} : q_G_promiseCount S (f + 1) 3 [a0, a1, a2, a3] (.int x :: st) h = (S 4 [a0, a1, a2, some (.int x)] st h) := by rw [q_G_promiseCount, hz_w_at d_G_promiseCount_3]; rfl
theorem d_G_promiseCount_4 : decode c_G_promiseCount 4 = .ok (.iload_n 3, 1) := by decide +kernel
theorem e_G_promiseCount_4 {a0 a1 a2 : Option Value} : q_G_promiseCount S (f + 1) 4 [a0, a1, a2, some (.int x)] st h = (q_G_promiseCount S f 5 [a0, a1, a2, some (.int x)] (.int x :: st) h) := by rw [q_G_promiseCount, hz_w_at d_G_promiseCount_4]; rfl
theorem d_G_promiseCount_5 : decode c_G_promiseCount 5 = .ok (.ifCond .lt 21, 3) := by decide +kernel
theorem e_G_promiseCount_5 : q_G_promiseCount S (f + 1) 5 L (.int x :: st) h = ((x.toInt < 0 → q_G_promiseCount S f 26 L st h) ∧ (¬ (x.toInt < 0) → q_G_promiseCount S f 8 L st h)) := by rw [q_G_promiseCount, hz_w_at d_G_promiseCount_5]; rfl
theorem d_G_promiseCount_8 : decode c_G_promiseCount 8 = .ok (.iload_n 2, 1) := by decide +kernel
theorem e_G_promiseCount_8 {a0 a1 a3 : Option Value} : q_G_promiseCount S (f + 1) 8 [a0, a1, some (.int x), a3] st h = (q_G_promiseCount S f 9 [a0, a1, some (.int x), a3] (.int x :: st) h) := by rw [q_G_promiseCount, hz_w_at d_G_promiseCount_8]; rfl
theorem d_G_promiseCount_9 : decode c_G_promiseCount 9 = .ok (.iconst 4, 1) := by decide +kernel
theorem e_G_promiseCount_9 : q_G_promiseCount S (f + 1) 9 L st h = (q_G_promiseCount S f 10 L (.int (hz_n 4) :: st) h) := by rw [q_G_promiseCount, hz_w_at d_G_promiseCount_9]; rfl
theorem d_G_promiseCount_10 : decode c_G_promiseCount 10 = .ok (.if_icmp .ge 16, 3) := by decide +kernel
theorem e_G_promiseCount_10 : q_G_promiseCount S (f + 1) 10 L (.int y :: .int x :: st) h = ((y.toInt ≤ x.toInt → q_G_promiseCount S f 26 L st h) ∧ (¬ (y.toInt ≤ x.toInt) → q_G_promiseCount S f 13 L st h)) := by rw [q_G_promiseCount, hz_w_at d_G_promiseCount_10]; rfl
theorem d_G_promiseCount_13 : decode c_G_promiseCount 13 = .ok (.iinc 2 1, 3) := by decide +kernel
theorem e_G_promiseCount_13 {a0 a1 a3 : Option Value} : q_G_promiseCount S (f + 1) 13 [a0, a1, some (.int x), a3] st h = (q_G_promiseCount S f 16 [a0, a1, some (.int (x + hz_n 1)), a3] st h) := by rw [q_G_promiseCount, hz_w_at d_G_promiseCount_13]; rfl
theorem d_G_promiseCount_16 : decode c_G_promiseCount 16 = .ok (.aload_n 0, 1) := by decide +kernel
theorem e_G_promiseCount_16 {a1 a2 a3 : Option Value} : q_G_promiseCount S (f + 1) 16 [some (.ref i), a1, a2, a3] st h = (q_G_promiseCount S f 17 [some (.ref i), a1, a2, a3] (.ref i :: st) h) := by rw [q_G_promiseCount, hz_w_at d_G_promiseCount_16]; rfl
theorem e_G_promiseCount_16n {a1 a2 a3 : Option Value} : q_G_promiseCount S (f + 1) 16 [some .null, a1, a2, a3] st h = (q_G_promiseCount S f 17 [some .null, a1, a2, a3] (.null :: st) h) := by rw [q_G_promiseCount, hz_w_at d_G_promiseCount_16]; rfl
theorem d_G_promiseCount_17 : decode c_G_promiseCount 17 = .ok (.getfield 30, 3) := by decide +kernel
theorem e_G_promiseCount_17 : q_G_promiseCount S (f + 1) 17 L (.ref i :: st) h = (hz_rd h i 1 5 fun v => q_G_promiseCount S f 20 L (v :: st) h) := by rw [q_G_promiseCount, hz_w_at d_G_promiseCount_17]; rfl
theorem d_G_promiseCount_20 : decode c_G_promiseCount 20 = .ok (.iload_n 3, 1) := by decide +kernel
theorem e_G_promiseCount_20 {a0 a1 a2 : Option Value} : q_G_promiseCount S (f + 1) 20 [a0, a1, a2, some (.int x)] st h = (q_G_promiseCount S f 21 [a0, a1, a2, some (.int x)] (.int x :: st) h) := by rw [q_G_promiseCount, hz_w_at d_G_promiseCount_20]; rfl
theorem d_G_promiseCount_21 : decode c_G_promiseCount 21 = .ok (.iaload, 1) := by decide +kernel
theorem e_G_promiseCount_21 : q_G_promiseCount S (f + 1) 21 L (.int x :: .ref i :: st) h = (hz_ea zKT hz_kI h i x fun v => q_G_promiseCount S f 22 L (v :: st) h) := by rw [q_G_promiseCount, hz_w_at d_G_promiseCount_21]; rfl
theorem d_G_promiseCount_22 : decode c_G_promiseCount 22 = .ok (.istore_n 3, 1) := by decide +kernel
theorem e_G_promiseCount_22 {a0 a1 a2 a3 : Option Value} : q_G_promiseCount S (f + 1) 22 [a0, a1, a2, a3] (.int x :: st) h = (q_G_promiseCount S f 23 [a0, a1, a2, some (.int x)] st h) := by rw [q_G_promiseCount, hz_w_at d_G_promiseCount_22]; rfl
theorem d_G_promiseCount_23 : decode c_G_promiseCount 23 = .ok (.goto (-19), 3) := by decide +kernel
theorem e_G_promiseCount_23 : q_G_promiseCount S (f + 1) 23 L st h = (S 4 L st h) := by rw [q_G_promiseCount, hz_w_at d_G_promiseCount_23]; rfl
theorem d_G_promiseCount_26 : decode c_G_promiseCount 26 = .ok (.iload_n 2, 1) := by decide +kernel
theorem e_G_promiseCount_26 {a0 a1 a3 : Option Value} : q_G_promiseCount S (f + 1) 26 [a0, a1, some (.int x), a3] st h = (q_G_promiseCount S f 27 [a0, a1, some (.int x), a3] (.int x :: st) h) := by rw [q_G_promiseCount, hz_w_at d_G_promiseCount_26]; rfl
theorem d_G_promiseCount_27 : decode c_G_promiseCount 27 = .ok (.ireturn, 1) := by decide +kernel
theorem e_G_promiseCount_27 : q_G_promiseCount S (f + 1) 27 L st h = (S 27 L st h) := by rw [q_G_promiseCount, hz_w_at d_G_promiseCount_27]; rfl
end
abbrev q_G_letterOf (S : Nat → List (Option Value) → List Value → hz_H → Prop) := hz_w zCl zKT f_G n_G c_G_letterOf [4] S
section
variable {S : Nat → List (Option Value) → List Value → hz_H → Prop} {f : Nat} {L : List (Option Value)} {st : List Value} {h : hz_H} {x y : Int32} {i j : Nat} {X Y : Int64}
theorem d_G_letterOf_0 : decode c_G_letterOf 0 = .ok (.iload_n 1, 1) := by decide +kernel
theorem e_G_letterOf_0 {a0 a2 a3 : Option Value} : q_G_letterOf S (f + 1) 0 [a0, some (.int x), a2, a3] st h = (q_G_letterOf S f 1 [a0, some (.int x), a2, a3] (.int x :: st) h) := by rw [q_G_letterOf, hz_w_at d_G_letterOf_0]; rfl
theorem d_G_letterOf_1 : decode c_G_letterOf 1 = .ok (.istore_n 2, 1) := by decide +kernel
theorem e_G_letterOf_1 {a0 a1 a2 a3 : Option Value} : q_G_letterOf S (f + 1) 1 [a0, a1, a2, a3] (.int x :: st) h = (q_G_letterOf S f 2 [a0, a1, some (.int x), a3] st h) := by rw [q_G_letterOf, hz_w_at d_G_letterOf_1]; rfl
theorem d_G_letterOf_2 : decode c_G_letterOf 2 = .ok (.iconst 0, 1) := by decide +kernel
theorem e_G_letterOf_2 : q_G_letterOf S (f + 1) 2 L st h = (q_G_letterOf S f 3 L (.int (hz_n 0) :: st) h) := by rw [q_G_letterOf, hz_w_at d_G_letterOf_2]; rfl
theorem d_G_letterOf_3 : decode c_G_letterOf 3 = .ok (.istore_n 3, 1) := by decide +kernel
theorem e_G_letterOf_3 {a0 a1 a2 a3 : Option Value} : q_G_letterOf S (f + 1) 3 [a0, a1, a2, a3] (.int x :: st) h = (S 4 [a0, a1, a2, some (.int x)] st h) := by rw [q_G_letterOf, hz_w_at d_G_letterOf_3]; rfl
theorem d_G_letterOf_4 : decode c_G_letterOf 4 = .ok (.iload_n 2, 1) := by decide +kernel
theorem e_G_letterOf_4 {a0 a1 a3 : Option Value} : q_G_letterOf S (f + 1) 4 [a0, a1, some (.int x), a3] st h = (q_G_letterOf S f 5 [a0, a1, some (.int x), a3] (.int x :: st) h) := by rw [q_G_letterOf, hz_w_at d_G_letterOf_4]; rfl
theorem d_G_letterOf_5 : decode c_G_letterOf 5 = .ok (.ifCond .lt 21, 3) := by decide +kernel
theorem e_G_letterOf_5 : q_G_letterOf S (f + 1) 5 L (.int x :: st) h = ((x.toInt < 0 → q_G_letterOf S f 26 L st h) ∧ (¬ (x.toInt < 0) → q_G_letterOf S f 8 L st h)) := by rw [q_G_letterOf, hz_w_at d_G_letterOf_5]; rfl
theorem d_G_letterOf_8 : decode c_G_letterOf 8 = .ok (.iload_n 3, 1) := by decide +kernel
theorem e_G_letterOf_8 {a0 a1 a2 : Option Value} : q_G_letterOf S (f + 1) 8 [a0, a1, a2, some (.int x)] st h = (q_G_letterOf S f 9 [a0, a1, a2, some (.int x)] (.int x :: st) h) := by rw [q_G_letterOf, hz_w_at d_G_letterOf_8]; rfl
theorem d_G_letterOf_9 : decode c_G_letterOf 9 = .ok (.iconst 4, 1) := by decide +kernel
theorem e_G_letterOf_9 : q_G_letterOf S (f + 1) 9 L st h = (q_G_letterOf S f 10 L (.int (hz_n 4) :: st) h) := by rw [q_G_letterOf, hz_w_at d_G_letterOf_9]; rfl
theorem d_G_letterOf_10 : decode c_G_letterOf 10 = .ok (.if_icmp .ge 16, 3) := by decide +kernel
theorem e_G_letterOf_10 : q_G_letterOf S (f + 1) 10 L (.int y :: .int x :: st) h = ((y.toInt ≤ x.toInt → q_G_letterOf S f 26 L st h) ∧ (¬ (y.toInt ≤ x.toInt) → q_G_letterOf S f 13 L st h)) := by rw [q_G_letterOf, hz_w_at d_G_letterOf_10]; rfl
theorem d_G_letterOf_13 : decode c_G_letterOf 13 = .ok (.aload_n 0, 1) := by decide +kernel
theorem e_G_letterOf_13 {a1 a2 a3 : Option Value} : q_G_letterOf S (f + 1) 13 [some (.ref i), a1, a2, a3] st h = (q_G_letterOf S f 14 [some (.ref i), a1, a2, a3] (.ref i :: st) h) := by rw [q_G_letterOf, hz_w_at d_G_letterOf_13]; rfl
theorem e_G_letterOf_13n {a1 a2 a3 : Option Value} : q_G_letterOf S (f + 1) 13 [some .null, a1, a2, a3] st h = (q_G_letterOf S f 14 [some .null, a1, a2, a3] (.null :: st) h) := by rw [q_G_letterOf, hz_w_at d_G_letterOf_13]; rfl
theorem d_G_letterOf_14 : decode c_G_letterOf 14 = .ok (.getfield 30, 3) := by decide +kernel
theorem e_G_letterOf_14 : q_G_letterOf S (f + 1) 14 L (.ref i :: st) h = (hz_rd h i 1 5 fun v => q_G_letterOf S f 17 L (v :: st) h) := by rw [q_G_letterOf, hz_w_at d_G_letterOf_14]; rfl
theorem d_G_letterOf_17 : decode c_G_letterOf 17 = .ok (.iload_n 2, 1) := by decide +kernel
theorem e_G_letterOf_17 {a0 a1 a3 : Option Value} : q_G_letterOf S (f + 1) 17 [a0, a1, some (.int x), a3] st h = (q_G_letterOf S f 18 [a0, a1, some (.int x), a3] (.int x :: st) h) := by rw [q_G_letterOf, hz_w_at d_G_letterOf_17]; rfl
theorem d_G_letterOf_18 : decode c_G_letterOf 18 = .ok (.iaload, 1) := by decide +kernel
theorem e_G_letterOf_18 : q_G_letterOf S (f + 1) 18 L (.int x :: .ref i :: st) h = (hz_ea zKT hz_kI h i x fun v => q_G_letterOf S f 19 L (v :: st) h) := by rw [q_G_letterOf, hz_w_at d_G_letterOf_18]; rfl
theorem d_G_letterOf_19 : decode c_G_letterOf 19 = .ok (.istore_n 2, 1) := by decide +kernel
theorem e_G_letterOf_19 {a0 a1 a2 a3 : Option Value} : q_G_letterOf S (f + 1) 19 [a0, a1, a2, a3] (.int x :: st) h = (q_G_letterOf S f 20 [a0, a1, some (.int x), a3] st h) := by rw [q_G_letterOf, hz_w_at d_G_letterOf_19]; rfl
theorem d_G_letterOf_20 : decode c_G_letterOf 20 = .ok (.iinc 3 1, 3) := by decide +kernel
theorem e_G_letterOf_20 {a0 a1 a2 : Option Value} : q_G_letterOf S (f + 1) 20 [a0, a1, a2, some (.int x)] st h = (q_G_letterOf S f 23 [a0, a1, a2, some (.int (x + hz_n 1))] st h) := by rw [q_G_letterOf, hz_w_at d_G_letterOf_20]; rfl
theorem d_G_letterOf_23 : decode c_G_letterOf 23 = .ok (.goto (-19), 3) := by decide +kernel
theorem e_G_letterOf_23 : q_G_letterOf S (f + 1) 23 L st h = (S 4 L st h) := by rw [q_G_letterOf, hz_w_at d_G_letterOf_23]; rfl
theorem d_G_letterOf_26 : decode c_G_letterOf 26 = .ok (.iconst (-1), 1) := by decide +kernel
theorem e_G_letterOf_26 : q_G_letterOf S (f + 1) 26 L st h = (q_G_letterOf S f 27 L (.int (hz_n (-1)) :: st) h) := by rw [q_G_letterOf, hz_w_at d_G_letterOf_26]; rfl
theorem d_G_letterOf_27 : decode c_G_letterOf 27 = .ok (.iload_n 2, 1) := by decide +kernel
theorem e_G_letterOf_27 {a0 a1 a3 : Option Value} : q_G_letterOf S (f + 1) 27 [a0, a1, some (.int x), a3] st h = (q_G_letterOf S f 28 [a0, a1, some (.int x), a3] (.int x :: st) h) := by rw [q_G_letterOf, hz_w_at d_G_letterOf_27]; rfl
theorem d_G_letterOf_28 : decode c_G_letterOf 28 = .ok (.isub, 1) := by decide +kernel
theorem e_G_letterOf_28 : q_G_letterOf S (f + 1) 28 L (.int y :: .int x :: st) h = (q_G_letterOf S f 29 L (.int (x - y) :: st) h) := by rw [q_G_letterOf, hz_w_at d_G_letterOf_28]; rfl
theorem d_G_letterOf_29 : decode c_G_letterOf 29 = .ok (.ireturn, 1) := by decide +kernel
theorem e_G_letterOf_29 : q_G_letterOf S (f + 1) 29 L st h = (S 29 L st h) := by rw [q_G_letterOf, hz_w_at d_G_letterOf_29]; rfl
end
abbrev q_G_enter (S : Nat → List (Option Value) → List Value → hz_H → Prop) := hz_w zCl zKT f_G n_G c_G_enter [38, 76] S
section
variable {S : Nat → List (Option Value) → List Value → hz_H → Prop} {f : Nat} {L : List (Option Value)} {st : List Value} {h : hz_H} {x y : Int32} {i j : Nat} {X Y : Int64}
theorem d_G_enter_0 : decode c_G_enter 0 = .ok (.aload_n 0, 1) := by decide +kernel
theorem e_G_enter_0 {a1 a2 a3 a4 a5 a6 : Option Value} : q_G_enter S (f + 1) 0 [some (.ref i), a1, a2, a3, a4, a5, a6] st h = (q_G_enter S f 1 [some (.ref i), a1, a2, a3, a4, a5, a6] (.ref i :: st) h) := by rw [q_G_enter, hz_w_at d_G_enter_0]; rfl
theorem e_G_enter_0n {a1 a2 a3 a4 a5 a6 : Option Value} : q_G_enter S (f + 1) 0 [some .null, a1, a2, a3, a4, a5, a6] st h = (q_G_enter S f 1 [some .null, a1, a2, a3, a4, a5, a6] (.null :: st) h) := by rw [q_G_enter, hz_w_at d_G_enter_0]; rfl
theorem d_G_enter_1 : decode c_G_enter 1 = .ok (.getfield 52, 3) := by decide +kernel
theorem e_G_enter_1 : q_G_enter S (f + 1) 1 L (.ref i :: st) h = (hz_rd h i 1 12 fun v => q_G_enter S f 4 L (v :: st) h) := by rw [q_G_enter, hz_w_at d_G_enter_1]; rfl
theorem d_G_enter_4 : decode c_G_enter 4 = .ok (.aload_n 0, 1) := by decide +kernel
theorem e_G_enter_4 {a1 a2 a3 a4 a5 a6 : Option Value} : q_G_enter S (f + 1) 4 [some (.ref i), a1, a2, a3, a4, a5, a6] st h = (q_G_enter S f 5 [some (.ref i), a1, a2, a3, a4, a5, a6] (.ref i :: st) h) := by rw [q_G_enter, hz_w_at d_G_enter_4]; rfl
theorem e_G_enter_4n {a1 a2 a3 a4 a5 a6 : Option Value} : q_G_enter S (f + 1) 4 [some .null, a1, a2, a3, a4, a5, a6] st h = (q_G_enter S f 5 [some .null, a1, a2, a3, a4, a5, a6] (.null :: st) h) := by rw [q_G_enter, hz_w_at d_G_enter_4]; rfl
theorem d_G_enter_5 : decode c_G_enter 5 = .ok (.getfield 49, 3) := by decide +kernel
theorem e_G_enter_5 : q_G_enter S (f + 1) 5 L (.ref i :: st) h = (hz_rd h i 1 11 fun v => q_G_enter S f 8 L (v :: st) h) := by rw [q_G_enter, hz_w_at d_G_enter_5]; rfl
theorem d_G_enter_8 : decode c_G_enter 8 = .ok (.if_icmp .lt 11, 3) := by decide +kernel
theorem e_G_enter_8 : q_G_enter S (f + 1) 8 L (.int y :: .int x :: st) h = ((x.toInt < y.toInt → q_G_enter S f 19 L st h) ∧ (¬ (x.toInt < y.toInt) → q_G_enter S f 11 L st h)) := by rw [q_G_enter, hz_w_at d_G_enter_8]; rfl
theorem d_G_enter_11 : decode c_G_enter 11 = .ok (.aload_n 0, 1) := by decide +kernel
theorem e_G_enter_11 {a1 a2 a3 a4 a5 a6 : Option Value} : q_G_enter S (f + 1) 11 [some (.ref i), a1, a2, a3, a4, a5, a6] st h = (q_G_enter S f 12 [some (.ref i), a1, a2, a3, a4, a5, a6] (.ref i :: st) h) := by rw [q_G_enter, hz_w_at d_G_enter_11]; rfl
theorem e_G_enter_11n {a1 a2 a3 a4 a5 a6 : Option Value} : q_G_enter S (f + 1) 11 [some .null, a1, a2, a3, a4, a5, a6] st h = (q_G_enter S f 12 [some .null, a1, a2, a3, a4, a5, a6] (.null :: st) h) := by rw [q_G_enter, hz_w_at d_G_enter_11]; rfl
theorem d_G_enter_12 : decode c_G_enter 12 = .ok (.bipush (-2), 2) := by decide +kernel
theorem e_G_enter_12 : q_G_enter S (f + 1) 12 L st h = (q_G_enter S f 14 L (.int (hz_n (-2)) :: st) h) := by rw [q_G_enter, hz_w_at d_G_enter_12]; rfl
theorem d_G_enter_14 : decode c_G_enter 14 = .ok (.putfield 55, 3) := by decide +kernel
theorem e_G_enter_14 : q_G_enter S (f + 1) 14 L (.int x :: .ref i :: st) h = (hz_wr h i 1 13 (.int x) fun h => q_G_enter S f 17 L st h) := by rw [q_G_enter, hz_w_at d_G_enter_14]; rfl
theorem d_G_enter_17 : decode c_G_enter 17 = .ok (.iconst (-1), 1) := by decide +kernel
theorem e_G_enter_17 : q_G_enter S (f + 1) 17 L st h = (q_G_enter S f 18 L (.int (hz_n (-1)) :: st) h) := by rw [q_G_enter, hz_w_at d_G_enter_17]; rfl
theorem d_G_enter_18 : decode c_G_enter 18 = .ok (.ireturn, 1) := by decide +kernel
theorem e_G_enter_18 : q_G_enter S (f + 1) 18 L st h = (S 18 L st h) := by rw [q_G_enter, hz_w_at d_G_enter_18]; rfl
theorem d_G_enter_19 : decode c_G_enter 19 = .ok (.aload_n 0, 1) := by decide +kernel
theorem e_G_enter_19 {a1 a2 a3 a4 a5 a6 : Option Value} : q_G_enter S (f + 1) 19 [some (.ref i), a1, a2, a3, a4, a5, a6] st h = (q_G_enter S f 20 [some (.ref i), a1, a2, a3, a4, a5, a6] (.ref i :: st) h) := by rw [q_G_enter, hz_w_at d_G_enter_19]; rfl
theorem e_G_enter_19n {a1 a2 a3 a4 a5 a6 : Option Value} : q_G_enter S (f + 1) 19 [some .null, a1, a2, a3, a4, a5, a6] st h = (q_G_enter S f 20 [some .null, a1, a2, a3, a4, a5, a6] (.null :: st) h) := by rw [q_G_enter, hz_w_at d_G_enter_19]; rfl
theorem d_G_enter_20 : decode c_G_enter 20 = .ok (.getfield 11, 3) := by decide +kernel
theorem e_G_enter_20 : q_G_enter S (f + 1) 20 L (.ref i :: st) h = (hz_rd h i 1 0 fun v => q_G_enter S f 23 L (v :: st) h) := by rw [q_G_enter, hz_w_at d_G_enter_20]; rfl
theorem d_G_enter_23 : decode c_G_enter 23 = .ok (.iload_n 1, 1) := by decide +kernel
theorem e_G_enter_23 {a0 a2 a3 a4 a5 a6 : Option Value} : q_G_enter S (f + 1) 23 [a0, some (.int x), a2, a3, a4, a5, a6] st h = (q_G_enter S f 24 [a0, some (.int x), a2, a3, a4, a5, a6] (.int x :: st) h) := by rw [q_G_enter, hz_w_at d_G_enter_23]; rfl
theorem d_G_enter_24 : decode c_G_enter 24 = .ok (.aaload, 1) := by decide +kernel
theorem e_G_enter_24 : q_G_enter S (f + 1) 24 L (.int x :: .ref i :: st) h = (hz_ea zKT hz_kA h i x fun v => q_G_enter S f 25 L (v :: st) h) := by rw [q_G_enter, hz_w_at d_G_enter_24]; rfl
theorem d_G_enter_25 : decode c_G_enter 25 = .ok (.astore_n 3, 1) := by decide +kernel
theorem e_G_enter_25 {a0 a1 a2 a3 a4 a5 a6 : Option Value} : q_G_enter S (f + 1) 25 [a0, a1, a2, a3, a4, a5, a6] (.ref i :: st) h = (q_G_enter S f 26 [a0, a1, a2, some (.ref i), a4, a5, a6] st h) := by rw [q_G_enter, hz_w_at d_G_enter_25]; rfl
theorem e_G_enter_25n {a0 a1 a2 a3 a4 a5 a6 : Option Value} : q_G_enter S (f + 1) 25 [a0, a1, a2, a3, a4, a5, a6] (.null :: st) h = (q_G_enter S f 26 [a0, a1, a2, some .null, a4, a5, a6] st h) := by rw [q_G_enter, hz_w_at d_G_enter_25]; rfl
theorem d_G_enter_26 : decode c_G_enter 26 = .ok (.aload_n 0, 1) := by decide +kernel
theorem e_G_enter_26 {a1 a2 a3 a4 a5 a6 : Option Value} : q_G_enter S (f + 1) 26 [some (.ref i), a1, a2, a3, a4, a5, a6] st h = (q_G_enter S f 27 [some (.ref i), a1, a2, a3, a4, a5, a6] (.ref i :: st) h) := by rw [q_G_enter, hz_w_at d_G_enter_26]; rfl
theorem e_G_enter_26n {a1 a2 a3 a4 a5 a6 : Option Value} : q_G_enter S (f + 1) 26 [some .null, a1, a2, a3, a4, a5, a6] st h = (q_G_enter S f 27 [some .null, a1, a2, a3, a4, a5, a6] (.null :: st) h) := by rw [q_G_enter, hz_w_at d_G_enter_26]; rfl
theorem d_G_enter_27 : decode c_G_enter 27 = .ok (.getfield 52, 3) := by decide +kernel
theorem e_G_enter_27 : q_G_enter S (f + 1) 27 L (.ref i :: st) h = (hz_rd h i 1 12 fun v => q_G_enter S f 30 L (v :: st) h) := by rw [q_G_enter, hz_w_at d_G_enter_27]; rfl
theorem d_G_enter_30 : decode c_G_enter 30 = .ok (.bipush 40, 2) := by decide +kernel
theorem e_G_enter_30 : q_G_enter S (f + 1) 30 L st h = (q_G_enter S f 32 L (.int (hz_n 40) :: st) h) := by rw [q_G_enter, hz_w_at d_G_enter_30]; rfl
theorem d_G_enter_32 : decode c_G_enter 32 = .ok (.imul, 1) := by decide +kernel
theorem e_G_enter_32 : q_G_enter S (f + 1) 32 L (.int y :: .int x :: st) h = (q_G_enter S f 33 L (.int (x * y) :: st) h) := by rw [q_G_enter, hz_w_at d_G_enter_32]; rfl
theorem d_G_enter_33 : decode c_G_enter 33 = .ok (.istore 4, 2) := by decide +kernel
theorem e_G_enter_33 {a0 a1 a2 a3 a4 a5 a6 : Option Value} : q_G_enter S (f + 1) 33 [a0, a1, a2, a3, a4, a5, a6] (.int x :: st) h = (q_G_enter S f 35 [a0, a1, a2, a3, some (.int x), a5, a6] st h) := by rw [q_G_enter, hz_w_at d_G_enter_33]; rfl
theorem d_G_enter_35 : decode c_G_enter 35 = .ok (.iconst 0, 1) := by decide +kernel
theorem e_G_enter_35 : q_G_enter S (f + 1) 35 L st h = (q_G_enter S f 36 L (.int (hz_n 0) :: st) h) := by rw [q_G_enter, hz_w_at d_G_enter_35]; rfl
theorem d_G_enter_36 : decode c_G_enter 36 = .ok (.istore 5, 2) := by decide +kernel
theorem e_G_enter_36 {a0 a1 a2 a3 a4 a5 a6 : Option Value} : q_G_enter S (f + 1) 36 [a0, a1, a2, a3, a4, a5, a6] (.int x :: st) h = (S 38 [a0, a1, a2, a3, a4, some (.int x), a6] st h) := by rw [q_G_enter, hz_w_at d_G_enter_36]; rfl
theorem d_G_enter_38 : decode c_G_enter 38 = .ok (.iload 5, 2) := by decide +kernel
theorem e_G_enter_38 {a0 a1 a2 a3 a4 a6 : Option Value} : q_G_enter S (f + 1) 38 [a0, a1, a2, a3, a4, some (.int x), a6] st h = (q_G_enter S f 40 [a0, a1, a2, a3, a4, some (.int x), a6] (.int x :: st) h) := by rw [q_G_enter, hz_w_at d_G_enter_38]; rfl
theorem d_G_enter_40 : decode c_G_enter 40 = .ok (.aload_n 3, 1) := by decide +kernel
theorem e_G_enter_40 {a0 a1 a2 a4 a5 a6 : Option Value} : q_G_enter S (f + 1) 40 [a0, a1, a2, some (.ref i), a4, a5, a6] st h = (q_G_enter S f 41 [a0, a1, a2, some (.ref i), a4, a5, a6] (.ref i :: st) h) := by rw [q_G_enter, hz_w_at d_G_enter_40]; rfl
theorem e_G_enter_40n {a0 a1 a2 a4 a5 a6 : Option Value} : q_G_enter S (f + 1) 40 [a0, a1, a2, some .null, a4, a5, a6] st h = (q_G_enter S f 41 [a0, a1, a2, some .null, a4, a5, a6] (.null :: st) h) := by rw [q_G_enter, hz_w_at d_G_enter_40]; rfl
theorem d_G_enter_41 : decode c_G_enter 41 = .ok (.getfield 82, 3) := by decide +kernel
theorem e_G_enter_41 : q_G_enter S (f + 1) 41 L (.ref i :: st) h = (hz_rd h i 0 0 fun v => q_G_enter S f 44 L (v :: st) h) := by rw [q_G_enter, hz_w_at d_G_enter_41]; rfl
theorem d_G_enter_44 : decode c_G_enter 44 = .ok (.arraylength, 1) := by decide +kernel
theorem e_G_enter_44 : q_G_enter S (f + 1) 44 L (.ref i :: st) h = (hz_al zKT h i fun v => q_G_enter S f 45 L (v :: st) h) := by rw [q_G_enter, hz_w_at d_G_enter_44]; rfl
theorem d_G_enter_45 : decode c_G_enter 45 = .ok (.if_icmp .ge 20, 3) := by decide +kernel
theorem e_G_enter_45 : q_G_enter S (f + 1) 45 L (.int y :: .int x :: st) h = ((y.toInt ≤ x.toInt → q_G_enter S f 65 L st h) ∧ (¬ (y.toInt ≤ x.toInt) → q_G_enter S f 48 L st h)) := by rw [q_G_enter, hz_w_at d_G_enter_45]; rfl
theorem d_G_enter_48 : decode c_G_enter 48 = .ok (.aload_n 0, 1) := by decide +kernel
theorem e_G_enter_48 {a1 a2 a3 a4 a5 a6 : Option Value} : q_G_enter S (f + 1) 48 [some (.ref i), a1, a2, a3, a4, a5, a6] st h = (q_G_enter S f 49 [some (.ref i), a1, a2, a3, a4, a5, a6] (.ref i :: st) h) := by rw [q_G_enter, hz_w_at d_G_enter_48]; rfl
theorem e_G_enter_48n {a1 a2 a3 a4 a5 a6 : Option Value} : q_G_enter S (f + 1) 48 [some .null, a1, a2, a3, a4, a5, a6] st h = (q_G_enter S f 49 [some .null, a1, a2, a3, a4, a5, a6] (.null :: st) h) := by rw [q_G_enter, hz_w_at d_G_enter_48]; rfl
theorem d_G_enter_49 : decode c_G_enter 49 = .ok (.getfield 24, 3) := by decide +kernel
theorem e_G_enter_49 : q_G_enter S (f + 1) 49 L (.ref i :: st) h = (hz_rd h i 1 3 fun v => q_G_enter S f 52 L (v :: st) h) := by rw [q_G_enter, hz_w_at d_G_enter_49]; rfl
theorem d_G_enter_52 : decode c_G_enter 52 = .ok (.iload 4, 2) := by decide +kernel
theorem e_G_enter_52 {a0 a1 a2 a3 a5 a6 : Option Value} : q_G_enter S (f + 1) 52 [a0, a1, a2, a3, some (.int x), a5, a6] st h = (q_G_enter S f 54 [a0, a1, a2, a3, some (.int x), a5, a6] (.int x :: st) h) := by rw [q_G_enter, hz_w_at d_G_enter_52]; rfl
theorem d_G_enter_54 : decode c_G_enter 54 = .ok (.iload 5, 2) := by decide +kernel
theorem e_G_enter_54 {a0 a1 a2 a3 a4 a6 : Option Value} : q_G_enter S (f + 1) 54 [a0, a1, a2, a3, a4, some (.int x), a6] st h = (q_G_enter S f 56 [a0, a1, a2, a3, a4, some (.int x), a6] (.int x :: st) h) := by rw [q_G_enter, hz_w_at d_G_enter_54]; rfl
theorem d_G_enter_56 : decode c_G_enter 56 = .ok (.iadd, 1) := by decide +kernel
theorem e_G_enter_56 : q_G_enter S (f + 1) 56 L (.int y :: .int x :: st) h = (q_G_enter S f 57 L (.int (x + y) :: st) h) := by rw [q_G_enter, hz_w_at d_G_enter_56]; rfl
theorem d_G_enter_57 : decode c_G_enter 57 = .ok (.iconst 0, 1) := by decide +kernel
theorem e_G_enter_57 : q_G_enter S (f + 1) 57 L st h = (q_G_enter S f 58 L (.int (hz_n 0) :: st) h) := by rw [q_G_enter, hz_w_at d_G_enter_57]; rfl
theorem d_G_enter_58 : decode c_G_enter 58 = .ok (.iastore, 1) := by decide +kernel
theorem e_G_enter_58 : q_G_enter S (f + 1) 58 L (.int y :: .int x :: .ref i :: st) h = (hz_es zKT hz_kI h i x (.int y) fun h => q_G_enter S f 59 L st h) := by rw [q_G_enter, hz_w_at d_G_enter_58]; rfl
theorem d_G_enter_59 : decode c_G_enter 59 = .ok (.iinc 5 1, 3) := by decide +kernel
theorem e_G_enter_59 {a0 a1 a2 a3 a4 a6 : Option Value} : q_G_enter S (f + 1) 59 [a0, a1, a2, a3, a4, some (.int x), a6] st h = (q_G_enter S f 62 [a0, a1, a2, a3, a4, some (.int (x + hz_n 1)), a6] st h) := by rw [q_G_enter, hz_w_at d_G_enter_59]; rfl
theorem d_G_enter_62 : decode c_G_enter 62 = .ok (.goto (-24), 3) := by decide +kernel
theorem e_G_enter_62 : q_G_enter S (f + 1) 62 L st h = (S 38 L st h) := by rw [q_G_enter, hz_w_at d_G_enter_62]; rfl
theorem d_G_enter_65 : decode c_G_enter 65 = .ok (.iload_n 2, 1) := by decide +kernel
theorem e_G_enter_65 {a0 a1 a3 a4 a5 a6 : Option Value} : q_G_enter S (f + 1) 65 [a0, a1, some (.int x), a3, a4, a5, a6] st h = (q_G_enter S f 66 [a0, a1, some (.int x), a3, a4, a5, a6] (.int x :: st) h) := by rw [q_G_enter, hz_w_at d_G_enter_65]; rfl
theorem d_G_enter_66 : decode c_G_enter 66 = .ok (.istore 5, 2) := by decide +kernel
theorem e_G_enter_66 {a0 a1 a2 a3 a4 a5 a6 : Option Value} : q_G_enter S (f + 1) 66 [a0, a1, a2, a3, a4, a5, a6] (.int x :: st) h = (q_G_enter S f 68 [a0, a1, a2, a3, a4, some (.int x), a6] st h) := by rw [q_G_enter, hz_w_at d_G_enter_66]; rfl
theorem d_G_enter_68 : decode c_G_enter 68 = .ok (.aload_n 3, 1) := by decide +kernel
theorem e_G_enter_68 {a0 a1 a2 a4 a5 a6 : Option Value} : q_G_enter S (f + 1) 68 [a0, a1, a2, some (.ref i), a4, a5, a6] st h = (q_G_enter S f 69 [a0, a1, a2, some (.ref i), a4, a5, a6] (.ref i :: st) h) := by rw [q_G_enter, hz_w_at d_G_enter_68]; rfl
theorem e_G_enter_68n {a0 a1 a2 a4 a5 a6 : Option Value} : q_G_enter S (f + 1) 68 [a0, a1, a2, some .null, a4, a5, a6] st h = (q_G_enter S f 69 [a0, a1, a2, some .null, a4, a5, a6] (.null :: st) h) := by rw [q_G_enter, hz_w_at d_G_enter_68]; rfl
theorem d_G_enter_69 : decode c_G_enter 69 = .ok (.getfield 58, 3) := by decide +kernel
theorem e_G_enter_69 : q_G_enter S (f + 1) 69 L (.ref i :: st) h = (hz_rd h i 0 3 fun v => q_G_enter S f 72 L (v :: st) h) := by rw [q_G_enter, hz_w_at d_G_enter_69]; rfl
theorem d_G_enter_72 : decode c_G_enter 72 = .ok (.iconst 1, 1) := by decide +kernel
theorem e_G_enter_72 : q_G_enter S (f + 1) 72 L st h = (q_G_enter S f 73 L (.int (hz_n 1) :: st) h) := by rw [q_G_enter, hz_w_at d_G_enter_72]; rfl
theorem d_G_enter_73 : decode c_G_enter 73 = .ok (.isub, 1) := by decide +kernel
theorem e_G_enter_73 : q_G_enter S (f + 1) 73 L (.int y :: .int x :: st) h = (q_G_enter S f 74 L (.int (x - y) :: st) h) := by rw [q_G_enter, hz_w_at d_G_enter_73]; rfl
theorem d_G_enter_74 : decode c_G_enter 74 = .ok (.istore 6, 2) := by decide +kernel
theorem e_G_enter_74 {a0 a1 a2 a3 a4 a5 a6 : Option Value} : q_G_enter S (f + 1) 74 [a0, a1, a2, a3, a4, a5, a6] (.int x :: st) h = (S 76 [a0, a1, a2, a3, a4, a5, some (.int x)] st h) := by rw [q_G_enter, hz_w_at d_G_enter_74]; rfl
theorem d_G_enter_76 : decode c_G_enter 76 = .ok (.iload 6, 2) := by decide +kernel
theorem e_G_enter_76 {a0 a1 a2 a3 a4 a5 : Option Value} : q_G_enter S (f + 1) 76 [a0, a1, a2, a3, a4, a5, some (.int x)] st h = (q_G_enter S f 78 [a0, a1, a2, a3, a4, a5, some (.int x)] (.int x :: st) h) := by rw [q_G_enter, hz_w_at d_G_enter_76]; rfl
theorem d_G_enter_78 : decode c_G_enter 78 = .ok (.ifCond .lt 35, 3) := by decide +kernel
theorem e_G_enter_78 : q_G_enter S (f + 1) 78 L (.int x :: st) h = ((x.toInt < 0 → q_G_enter S f 113 L st h) ∧ (¬ (x.toInt < 0) → q_G_enter S f 81 L st h)) := by rw [q_G_enter, hz_w_at d_G_enter_78]; rfl
theorem d_G_enter_81 : decode c_G_enter 81 = .ok (.iload 5, 2) := by decide +kernel
theorem e_G_enter_81 {a0 a1 a2 a3 a4 a6 : Option Value} : q_G_enter S (f + 1) 81 [a0, a1, a2, a3, a4, some (.int x), a6] st h = (q_G_enter S f 83 [a0, a1, a2, a3, a4, some (.int x), a6] (.int x :: st) h) := by rw [q_G_enter, hz_w_at d_G_enter_81]; rfl
theorem d_G_enter_83 : decode c_G_enter 83 = .ok (.ifCond .lt 30, 3) := by decide +kernel
theorem e_G_enter_83 : q_G_enter S (f + 1) 83 L (.int x :: st) h = ((x.toInt < 0 → q_G_enter S f 113 L st h) ∧ (¬ (x.toInt < 0) → q_G_enter S f 86 L st h)) := by rw [q_G_enter, hz_w_at d_G_enter_83]; rfl
theorem d_G_enter_86 : decode c_G_enter 86 = .ok (.aload_n 0, 1) := by decide +kernel
theorem e_G_enter_86 {a1 a2 a3 a4 a5 a6 : Option Value} : q_G_enter S (f + 1) 86 [some (.ref i), a1, a2, a3, a4, a5, a6] st h = (q_G_enter S f 87 [some (.ref i), a1, a2, a3, a4, a5, a6] (.ref i :: st) h) := by rw [q_G_enter, hz_w_at d_G_enter_86]; rfl
theorem e_G_enter_86n {a1 a2 a3 a4 a5 a6 : Option Value} : q_G_enter S (f + 1) 86 [some .null, a1, a2, a3, a4, a5, a6] st h = (q_G_enter S f 87 [some .null, a1, a2, a3, a4, a5, a6] (.null :: st) h) := by rw [q_G_enter, hz_w_at d_G_enter_86]; rfl
theorem d_G_enter_87 : decode c_G_enter 87 = .ok (.getfield 27, 3) := by decide +kernel
theorem e_G_enter_87 : q_G_enter S (f + 1) 87 L (.ref i :: st) h = (hz_rd h i 1 4 fun v => q_G_enter S f 90 L (v :: st) h) := by rw [q_G_enter, hz_w_at d_G_enter_87]; rfl
theorem d_G_enter_90 : decode c_G_enter 90 = .ok (.iload 4, 2) := by decide +kernel
theorem e_G_enter_90 {a0 a1 a2 a3 a5 a6 : Option Value} : q_G_enter S (f + 1) 90 [a0, a1, a2, a3, some (.int x), a5, a6] st h = (q_G_enter S f 92 [a0, a1, a2, a3, some (.int x), a5, a6] (.int x :: st) h) := by rw [q_G_enter, hz_w_at d_G_enter_90]; rfl
theorem d_G_enter_92 : decode c_G_enter 92 = .ok (.iload 6, 2) := by decide +kernel
theorem e_G_enter_92 {a0 a1 a2 a3 a4 a5 : Option Value} : q_G_enter S (f + 1) 92 [a0, a1, a2, a3, a4, a5, some (.int x)] st h = (q_G_enter S f 94 [a0, a1, a2, a3, a4, a5, some (.int x)] (.int x :: st) h) := by rw [q_G_enter, hz_w_at d_G_enter_92]; rfl
theorem d_G_enter_94 : decode c_G_enter 94 = .ok (.iadd, 1) := by decide +kernel
theorem e_G_enter_94 : q_G_enter S (f + 1) 94 L (.int y :: .int x :: st) h = (q_G_enter S f 95 L (.int (x + y) :: st) h) := by rw [q_G_enter, hz_w_at d_G_enter_94]; rfl
theorem d_G_enter_95 : decode c_G_enter 95 = .ok (.iload 5, 2) := by decide +kernel
theorem e_G_enter_95 {a0 a1 a2 a3 a4 a6 : Option Value} : q_G_enter S (f + 1) 95 [a0, a1, a2, a3, a4, some (.int x), a6] st h = (q_G_enter S f 97 [a0, a1, a2, a3, a4, some (.int x), a6] (.int x :: st) h) := by rw [q_G_enter, hz_w_at d_G_enter_95]; rfl
theorem d_G_enter_97 : decode c_G_enter 97 = .ok (.iastore, 1) := by decide +kernel
theorem e_G_enter_97 : q_G_enter S (f + 1) 97 L (.int y :: .int x :: .ref i :: st) h = (hz_es zKT hz_kI h i x (.int y) fun h => q_G_enter S f 98 L st h) := by rw [q_G_enter, hz_w_at d_G_enter_97]; rfl
theorem d_G_enter_98 : decode c_G_enter 98 = .ok (.aload_n 0, 1) := by decide +kernel
theorem e_G_enter_98 {a1 a2 a3 a4 a5 a6 : Option Value} : q_G_enter S (f + 1) 98 [some (.ref i), a1, a2, a3, a4, a5, a6] st h = (q_G_enter S f 99 [some (.ref i), a1, a2, a3, a4, a5, a6] (.ref i :: st) h) := by rw [q_G_enter, hz_w_at d_G_enter_98]; rfl
theorem e_G_enter_98n {a1 a2 a3 a4 a5 a6 : Option Value} : q_G_enter S (f + 1) 98 [some .null, a1, a2, a3, a4, a5, a6] st h = (q_G_enter S f 99 [some .null, a1, a2, a3, a4, a5, a6] (.null :: st) h) := by rw [q_G_enter, hz_w_at d_G_enter_98]; rfl
theorem d_G_enter_99 : decode c_G_enter 99 = .ok (.getfield 30, 3) := by decide +kernel
theorem e_G_enter_99 : q_G_enter S (f + 1) 99 L (.ref i :: st) h = (hz_rd h i 1 5 fun v => q_G_enter S f 102 L (v :: st) h) := by rw [q_G_enter, hz_w_at d_G_enter_99]; rfl
theorem d_G_enter_102 : decode c_G_enter 102 = .ok (.iload 5, 2) := by decide +kernel
theorem e_G_enter_102 {a0 a1 a2 a3 a4 a6 : Option Value} : q_G_enter S (f + 1) 102 [a0, a1, a2, a3, a4, some (.int x), a6] st h = (q_G_enter S f 104 [a0, a1, a2, a3, a4, some (.int x), a6] (.int x :: st) h) := by rw [q_G_enter, hz_w_at d_G_enter_102]; rfl
theorem d_G_enter_104 : decode c_G_enter 104 = .ok (.iaload, 1) := by decide +kernel
theorem e_G_enter_104 : q_G_enter S (f + 1) 104 L (.int x :: .ref i :: st) h = (hz_ea zKT hz_kI h i x fun v => q_G_enter S f 105 L (v :: st) h) := by rw [q_G_enter, hz_w_at d_G_enter_104]; rfl
theorem d_G_enter_105 : decode c_G_enter 105 = .ok (.istore 5, 2) := by decide +kernel
theorem e_G_enter_105 {a0 a1 a2 a3 a4 a5 a6 : Option Value} : q_G_enter S (f + 1) 105 [a0, a1, a2, a3, a4, a5, a6] (.int x :: st) h = (q_G_enter S f 107 [a0, a1, a2, a3, a4, some (.int x), a6] st h) := by rw [q_G_enter, hz_w_at d_G_enter_105]; rfl
theorem d_G_enter_107 : decode c_G_enter 107 = .ok (.iinc 6 (-1), 3) := by decide +kernel
theorem e_G_enter_107 {a0 a1 a2 a3 a4 a5 : Option Value} : q_G_enter S (f + 1) 107 [a0, a1, a2, a3, a4, a5, some (.int x)] st h = (q_G_enter S f 110 [a0, a1, a2, a3, a4, a5, some (.int (x + hz_n (-1)))] st h) := by rw [q_G_enter, hz_w_at d_G_enter_107]; rfl
theorem d_G_enter_110 : decode c_G_enter 110 = .ok (.goto (-34), 3) := by decide +kernel
theorem e_G_enter_110 : q_G_enter S (f + 1) 110 L st h = (S 76 L st h) := by rw [q_G_enter, hz_w_at d_G_enter_110]; rfl
theorem d_G_enter_113 : decode c_G_enter 113 = .ok (.aload_n 0, 1) := by decide +kernel
theorem e_G_enter_113 {a1 a2 a3 a4 a5 a6 : Option Value} : q_G_enter S (f + 1) 113 [some (.ref i), a1, a2, a3, a4, a5, a6] st h = (q_G_enter S f 114 [some (.ref i), a1, a2, a3, a4, a5, a6] (.ref i :: st) h) := by rw [q_G_enter, hz_w_at d_G_enter_113]; rfl
theorem e_G_enter_113n {a1 a2 a3 a4 a5 a6 : Option Value} : q_G_enter S (f + 1) 113 [some .null, a1, a2, a3, a4, a5, a6] st h = (q_G_enter S f 114 [some .null, a1, a2, a3, a4, a5, a6] (.null :: st) h) := by rw [q_G_enter, hz_w_at d_G_enter_113]; rfl
theorem d_G_enter_114 : decode c_G_enter 114 = .ok (.getfield 17, 3) := by decide +kernel
theorem e_G_enter_114 : q_G_enter S (f + 1) 114 L (.ref i :: st) h = (hz_rd h i 1 1 fun v => q_G_enter S f 117 L (v :: st) h) := by rw [q_G_enter, hz_w_at d_G_enter_114]; rfl
theorem d_G_enter_117 : decode c_G_enter 117 = .ok (.aload_n 0, 1) := by decide +kernel
theorem e_G_enter_117 {a1 a2 a3 a4 a5 a6 : Option Value} : q_G_enter S (f + 1) 117 [some (.ref i), a1, a2, a3, a4, a5, a6] st h = (q_G_enter S f 118 [some (.ref i), a1, a2, a3, a4, a5, a6] (.ref i :: st) h) := by rw [q_G_enter, hz_w_at d_G_enter_117]; rfl
theorem e_G_enter_117n {a1 a2 a3 a4 a5 a6 : Option Value} : q_G_enter S (f + 1) 117 [some .null, a1, a2, a3, a4, a5, a6] st h = (q_G_enter S f 118 [some .null, a1, a2, a3, a4, a5, a6] (.null :: st) h) := by rw [q_G_enter, hz_w_at d_G_enter_117]; rfl
theorem d_G_enter_118 : decode c_G_enter 118 = .ok (.getfield 52, 3) := by decide +kernel
theorem e_G_enter_118 : q_G_enter S (f + 1) 118 L (.ref i :: st) h = (hz_rd h i 1 12 fun v => q_G_enter S f 121 L (v :: st) h) := by rw [q_G_enter, hz_w_at d_G_enter_118]; rfl
theorem d_G_enter_121 : decode c_G_enter 121 = .ok (.aload_n 3, 1) := by decide +kernel
theorem e_G_enter_121 {a0 a1 a2 a4 a5 a6 : Option Value} : q_G_enter S (f + 1) 121 [a0, a1, a2, some (.ref i), a4, a5, a6] st h = (q_G_enter S f 122 [a0, a1, a2, some (.ref i), a4, a5, a6] (.ref i :: st) h) := by rw [q_G_enter, hz_w_at d_G_enter_121]; rfl
theorem e_G_enter_121n {a0 a1 a2 a4 a5 a6 : Option Value} : q_G_enter S (f + 1) 121 [a0, a1, a2, some .null, a4, a5, a6] st h = (q_G_enter S f 122 [a0, a1, a2, some .null, a4, a5, a6] (.null :: st) h) := by rw [q_G_enter, hz_w_at d_G_enter_121]; rfl
theorem d_G_enter_122 : decode c_G_enter 122 = .ok (.aastore, 1) := by decide +kernel
theorem e_G_enter_122 : q_G_enter S (f + 1) 122 L st h = (S 122 L st h) := by rw [q_G_enter, hz_w_at d_G_enter_122]; rfl
theorem d_G_enter_123 : decode c_G_enter 123 = .ok (.aload_n 0, 1) := by decide +kernel
theorem e_G_enter_123 {a1 a2 a3 a4 a5 a6 : Option Value} : q_G_enter S (f + 1) 123 [some (.ref i), a1, a2, a3, a4, a5, a6] st h = (q_G_enter S f 124 [some (.ref i), a1, a2, a3, a4, a5, a6] (.ref i :: st) h) := by rw [q_G_enter, hz_w_at d_G_enter_123]; rfl
theorem e_G_enter_123n {a1 a2 a3 a4 a5 a6 : Option Value} : q_G_enter S (f + 1) 123 [some .null, a1, a2, a3, a4, a5, a6] st h = (q_G_enter S f 124 [some .null, a1, a2, a3, a4, a5, a6] (.null :: st) h) := by rw [q_G_enter, hz_w_at d_G_enter_123]; rfl
theorem d_G_enter_124 : decode c_G_enter 124 = .ok (.dup, 1) := by decide +kernel
theorem e_G_enter_124 : q_G_enter S (f + 1) 124 L (.ref i :: st) h = (q_G_enter S f 125 L (.ref i :: .ref i :: st) h) := by rw [q_G_enter, hz_w_at d_G_enter_124]; rfl
theorem e_G_enter_124i : q_G_enter S (f + 1) 124 L (.int x :: st) h = (q_G_enter S f 125 L (.int x :: .int x :: st) h) := by rw [q_G_enter, hz_w_at d_G_enter_124]; rfl
theorem d_G_enter_125 : decode c_G_enter 125 = .ok (.getfield 52, 3) := by decide +kernel
theorem e_G_enter_125 : q_G_enter S (f + 1) 125 L (.ref i :: st) h = (hz_rd h i 1 12 fun v => q_G_enter S f 128 L (v :: st) h) := by rw [q_G_enter, hz_w_at d_G_enter_125]; rfl
theorem d_G_enter_128 : decode c_G_enter 128 = .ok (.iconst 1, 1) := by decide +kernel
theorem e_G_enter_128 : q_G_enter S (f + 1) 128 L st h = (q_G_enter S f 129 L (.int (hz_n 1) :: st) h) := by rw [q_G_enter, hz_w_at d_G_enter_128]; rfl
theorem d_G_enter_129 : decode c_G_enter 129 = .ok (.iadd, 1) := by decide +kernel
theorem e_G_enter_129 : q_G_enter S (f + 1) 129 L (.int y :: .int x :: st) h = (q_G_enter S f 130 L (.int (x + y) :: st) h) := by rw [q_G_enter, hz_w_at d_G_enter_129]; rfl
theorem d_G_enter_130 : decode c_G_enter 130 = .ok (.putfield 52, 3) := by decide +kernel
theorem e_G_enter_130 : q_G_enter S (f + 1) 130 L (.int x :: .ref i :: st) h = (hz_wr h i 1 12 (.int x) fun h => q_G_enter S f 133 L st h) := by rw [q_G_enter, hz_w_at d_G_enter_130]; rfl
theorem d_G_enter_133 : decode c_G_enter 133 = .ok (.iload 4, 2) := by decide +kernel
theorem e_G_enter_133 {a0 a1 a2 a3 a5 a6 : Option Value} : q_G_enter S (f + 1) 133 [a0, a1, a2, a3, some (.int x), a5, a6] st h = (q_G_enter S f 135 [a0, a1, a2, a3, some (.int x), a5, a6] (.int x :: st) h) := by rw [q_G_enter, hz_w_at d_G_enter_133]; rfl
theorem d_G_enter_135 : decode c_G_enter 135 = .ok (.aload_n 3, 1) := by decide +kernel
theorem e_G_enter_135 {a0 a1 a2 a4 a5 a6 : Option Value} : q_G_enter S (f + 1) 135 [a0, a1, a2, some (.ref i), a4, a5, a6] st h = (q_G_enter S f 136 [a0, a1, a2, some (.ref i), a4, a5, a6] (.ref i :: st) h) := by rw [q_G_enter, hz_w_at d_G_enter_135]; rfl
theorem e_G_enter_135n {a0 a1 a2 a4 a5 a6 : Option Value} : q_G_enter S (f + 1) 135 [a0, a1, a2, some .null, a4, a5, a6] st h = (q_G_enter S f 136 [a0, a1, a2, some .null, a4, a5, a6] (.null :: st) h) := by rw [q_G_enter, hz_w_at d_G_enter_135]; rfl
theorem d_G_enter_136 : decode c_G_enter 136 = .ok (.getfield 58, 3) := by decide +kernel
theorem e_G_enter_136 : q_G_enter S (f + 1) 136 L (.ref i :: st) h = (hz_rd h i 0 3 fun v => q_G_enter S f 139 L (v :: st) h) := by rw [q_G_enter, hz_w_at d_G_enter_136]; rfl
theorem d_G_enter_139 : decode c_G_enter 139 = .ok (.iadd, 1) := by decide +kernel
theorem e_G_enter_139 : q_G_enter S (f + 1) 139 L (.int y :: .int x :: st) h = (q_G_enter S f 140 L (.int (x + y) :: st) h) := by rw [q_G_enter, hz_w_at d_G_enter_139]; rfl
theorem d_G_enter_140 : decode c_G_enter 140 = .ok (.iconst 1, 1) := by decide +kernel
theorem e_G_enter_140 : q_G_enter S (f + 1) 140 L st h = (q_G_enter S f 141 L (.int (hz_n 1) :: st) h) := by rw [q_G_enter, hz_w_at d_G_enter_140]; rfl
theorem d_G_enter_141 : decode c_G_enter 141 = .ok (.iadd, 1) := by decide +kernel
theorem e_G_enter_141 : q_G_enter S (f + 1) 141 L (.int y :: .int x :: st) h = (q_G_enter S f 142 L (.int (x + y) :: st) h) := by rw [q_G_enter, hz_w_at d_G_enter_141]; rfl
theorem d_G_enter_142 : decode c_G_enter 142 = .ok (.ireturn, 1) := by decide +kernel
theorem e_G_enter_142 : q_G_enter S (f + 1) 142 L st h = (S 142 L st h) := by rw [q_G_enter, hz_w_at d_G_enter_142]; rfl
end
abbrev q_G_lookAtChoice (S : Nat → List (Option Value) → List Value → hz_H → Prop) := hz_w zCl zKT f_G n_G c_G_lookAtChoice [] S
section
variable {S : Nat → List (Option Value) → List Value → hz_H → Prop} {f : Nat} {L : List (Option Value)} {st : List Value} {h : hz_H} {x y : Int32} {i j : Nat} {X Y : Int64}
theorem d_G_lookAtChoice_0 : decode c_G_lookAtChoice 0 = .ok (.iload_n 1, 1) := by decide +kernel
theorem e_G_lookAtChoice_0 {a0 a2 a3 : Option Value} : q_G_lookAtChoice S (f + 1) 0 [a0, some (.int x), a2, a3] st h = (q_G_lookAtChoice S f 1 [a0, some (.int x), a2, a3] (.int x :: st) h) := by rw [q_G_lookAtChoice, hz_w_at d_G_lookAtChoice_0]; rfl
theorem d_G_lookAtChoice_1 : decode c_G_lookAtChoice 1 = .ok (.iconst 1, 1) := by decide +kernel
theorem e_G_lookAtChoice_1 : q_G_lookAtChoice S (f + 1) 1 L st h = (q_G_lookAtChoice S f 2 L (.int (hz_n 1) :: st) h) := by rw [q_G_lookAtChoice, hz_w_at d_G_lookAtChoice_1]; rfl
theorem d_G_lookAtChoice_2 : decode c_G_lookAtChoice 2 = .ok (.iadd, 1) := by decide +kernel
theorem e_G_lookAtChoice_2 : q_G_lookAtChoice S (f + 1) 2 L (.int y :: .int x :: st) h = (q_G_lookAtChoice S f 3 L (.int (x + y) :: st) h) := by rw [q_G_lookAtChoice, hz_w_at d_G_lookAtChoice_2]; rfl
theorem d_G_lookAtChoice_3 : decode c_G_lookAtChoice 3 = .ok (.istore_n 2, 1) := by decide +kernel
theorem e_G_lookAtChoice_3 {a0 a1 a2 a3 : Option Value} : q_G_lookAtChoice S (f + 1) 3 [a0, a1, a2, a3] (.int x :: st) h = (q_G_lookAtChoice S f 4 [a0, a1, some (.int x), a3] st h) := by rw [q_G_lookAtChoice, hz_w_at d_G_lookAtChoice_3]; rfl
theorem d_G_lookAtChoice_4 : decode c_G_lookAtChoice 4 = .ok (.aload_n 0, 1) := by decide +kernel
theorem e_G_lookAtChoice_4 {a1 a2 a3 : Option Value} : q_G_lookAtChoice S (f + 1) 4 [some (.ref i), a1, a2, a3] st h = (q_G_lookAtChoice S f 5 [some (.ref i), a1, a2, a3] (.ref i :: st) h) := by rw [q_G_lookAtChoice, hz_w_at d_G_lookAtChoice_4]; rfl
theorem e_G_lookAtChoice_4n {a1 a2 a3 : Option Value} : q_G_lookAtChoice S (f + 1) 4 [some .null, a1, a2, a3] st h = (q_G_lookAtChoice S f 5 [some .null, a1, a2, a3] (.null :: st) h) := by rw [q_G_lookAtChoice, hz_w_at d_G_lookAtChoice_4]; rfl
theorem d_G_lookAtChoice_5 : decode c_G_lookAtChoice 5 = .ok (.iload_n 2, 1) := by decide +kernel
theorem e_G_lookAtChoice_5 {a0 a1 a3 : Option Value} : q_G_lookAtChoice S (f + 1) 5 [a0, a1, some (.int x), a3] st h = (q_G_lookAtChoice S f 6 [a0, a1, some (.int x), a3] (.int x :: st) h) := by rw [q_G_lookAtChoice, hz_w_at d_G_lookAtChoice_5]; rfl
theorem d_G_lookAtChoice_6 : decode c_G_lookAtChoice 6 = .ok (.invokevirtual 129, 3) := by decide +kernel
theorem e_G_lookAtChoice_6 : q_G_lookAtChoice S (f + 1) 6 L st h = (S 6 L st h) := by rw [q_G_lookAtChoice, hz_w_at d_G_lookAtChoice_6]; rfl
theorem d_G_lookAtChoice_9 : decode c_G_lookAtChoice 9 = .ok (.ifCond .eq 32, 3) := by decide +kernel
theorem e_G_lookAtChoice_9 : q_G_lookAtChoice S (f + 1) 9 L (.int x :: st) h = ((x.toInt = 0 → q_G_lookAtChoice S f 41 L st h) ∧ (¬ (x.toInt = 0) → q_G_lookAtChoice S f 12 L st h)) := by rw [q_G_lookAtChoice, hz_w_at d_G_lookAtChoice_9]; rfl
theorem d_G_lookAtChoice_12 : decode c_G_lookAtChoice 12 = .ok (.aload_n 0, 1) := by decide +kernel
theorem e_G_lookAtChoice_12 {a1 a2 a3 : Option Value} : q_G_lookAtChoice S (f + 1) 12 [some (.ref i), a1, a2, a3] st h = (q_G_lookAtChoice S f 13 [some (.ref i), a1, a2, a3] (.ref i :: st) h) := by rw [q_G_lookAtChoice, hz_w_at d_G_lookAtChoice_12]; rfl
theorem e_G_lookAtChoice_12n {a1 a2 a3 : Option Value} : q_G_lookAtChoice S (f + 1) 12 [some .null, a1, a2, a3] st h = (q_G_lookAtChoice S f 13 [some .null, a1, a2, a3] (.null :: st) h) := by rw [q_G_lookAtChoice, hz_w_at d_G_lookAtChoice_12]; rfl
theorem d_G_lookAtChoice_13 : decode c_G_lookAtChoice 13 = .ok (.iload_n 2, 1) := by decide +kernel
theorem e_G_lookAtChoice_13 {a0 a1 a3 : Option Value} : q_G_lookAtChoice S (f + 1) 13 [a0, a1, some (.int x), a3] st h = (q_G_lookAtChoice S f 14 [a0, a1, some (.int x), a3] (.int x :: st) h) := by rw [q_G_lookAtChoice, hz_w_at d_G_lookAtChoice_13]; rfl
theorem d_G_lookAtChoice_14 : decode c_G_lookAtChoice 14 = .ok (.invokevirtual 70, 3) := by decide +kernel
theorem e_G_lookAtChoice_14 : q_G_lookAtChoice S (f + 1) 14 L st h = (S 14 L st h) := by rw [q_G_lookAtChoice, hz_w_at d_G_lookAtChoice_14]; rfl
theorem d_G_lookAtChoice_17 : decode c_G_lookAtChoice 17 = .ok (.istore_n 3, 1) := by decide +kernel
theorem e_G_lookAtChoice_17 {a0 a1 a2 a3 : Option Value} : q_G_lookAtChoice S (f + 1) 17 [a0, a1, a2, a3] (.int x :: st) h = (q_G_lookAtChoice S f 18 [a0, a1, a2, some (.int x)] st h) := by rw [q_G_lookAtChoice, hz_w_at d_G_lookAtChoice_17]; rfl
theorem d_G_lookAtChoice_18 : decode c_G_lookAtChoice 18 = .ok (.aload_n 0, 1) := by decide +kernel
theorem e_G_lookAtChoice_18 {a1 a2 a3 : Option Value} : q_G_lookAtChoice S (f + 1) 18 [some (.ref i), a1, a2, a3] st h = (q_G_lookAtChoice S f 19 [some (.ref i), a1, a2, a3] (.ref i :: st) h) := by rw [q_G_lookAtChoice, hz_w_at d_G_lookAtChoice_18]; rfl
theorem e_G_lookAtChoice_18n {a1 a2 a3 : Option Value} : q_G_lookAtChoice S (f + 1) 18 [some .null, a1, a2, a3] st h = (q_G_lookAtChoice S f 19 [some .null, a1, a2, a3] (.null :: st) h) := by rw [q_G_lookAtChoice, hz_w_at d_G_lookAtChoice_18]; rfl
theorem d_G_lookAtChoice_19 : decode c_G_lookAtChoice 19 = .ok (.iload_n 1, 1) := by decide +kernel
theorem e_G_lookAtChoice_19 {a0 a2 a3 : Option Value} : q_G_lookAtChoice S (f + 1) 19 [a0, some (.int x), a2, a3] st h = (q_G_lookAtChoice S f 20 [a0, some (.int x), a2, a3] (.int x :: st) h) := by rw [q_G_lookAtChoice, hz_w_at d_G_lookAtChoice_19]; rfl
theorem d_G_lookAtChoice_20 : decode c_G_lookAtChoice 20 = .ok (.aload_n 0, 1) := by decide +kernel
theorem e_G_lookAtChoice_20 {a1 a2 a3 : Option Value} : q_G_lookAtChoice S (f + 1) 20 [some (.ref i), a1, a2, a3] st h = (q_G_lookAtChoice S f 21 [some (.ref i), a1, a2, a3] (.ref i :: st) h) := by rw [q_G_lookAtChoice, hz_w_at d_G_lookAtChoice_20]; rfl
theorem e_G_lookAtChoice_20n {a1 a2 a3 : Option Value} : q_G_lookAtChoice S (f + 1) 20 [some .null, a1, a2, a3] st h = (q_G_lookAtChoice S f 21 [some .null, a1, a2, a3] (.null :: st) h) := by rw [q_G_lookAtChoice, hz_w_at d_G_lookAtChoice_20]; rfl
theorem d_G_lookAtChoice_21 : decode c_G_lookAtChoice 21 = .ok (.getfield 27, 3) := by decide +kernel
theorem e_G_lookAtChoice_21 : q_G_lookAtChoice S (f + 1) 21 L (.ref i :: st) h = (hz_rd h i 1 4 fun v => q_G_lookAtChoice S f 24 L (v :: st) h) := by rw [q_G_lookAtChoice, hz_w_at d_G_lookAtChoice_21]; rfl
theorem d_G_lookAtChoice_24 : decode c_G_lookAtChoice 24 = .ok (.iload_n 2, 1) := by decide +kernel
theorem e_G_lookAtChoice_24 {a0 a1 a3 : Option Value} : q_G_lookAtChoice S (f + 1) 24 [a0, a1, some (.int x), a3] st h = (q_G_lookAtChoice S f 25 [a0, a1, some (.int x), a3] (.int x :: st) h) := by rw [q_G_lookAtChoice, hz_w_at d_G_lookAtChoice_24]; rfl
theorem d_G_lookAtChoice_25 : decode c_G_lookAtChoice 25 = .ok (.iaload, 1) := by decide +kernel
theorem e_G_lookAtChoice_25 : q_G_lookAtChoice S (f + 1) 25 L (.int x :: .ref i :: st) h = (hz_ea zKT hz_kI h i x fun v => q_G_lookAtChoice S f 26 L (v :: st) h) := by rw [q_G_lookAtChoice, hz_w_at d_G_lookAtChoice_25]; rfl
theorem d_G_lookAtChoice_26 : decode c_G_lookAtChoice 26 = .ok (.ifCond .eq 7, 3) := by decide +kernel
theorem e_G_lookAtChoice_26 : q_G_lookAtChoice S (f + 1) 26 L (.int x :: st) h = ((x.toInt = 0 → q_G_lookAtChoice S f 33 L st h) ∧ (¬ (x.toInt = 0) → q_G_lookAtChoice S f 29 L st h)) := by rw [q_G_lookAtChoice, hz_w_at d_G_lookAtChoice_26]; rfl
theorem d_G_lookAtChoice_29 : decode c_G_lookAtChoice 29 = .ok (.iload_n 3, 1) := by decide +kernel
theorem e_G_lookAtChoice_29 {a0 a1 a2 : Option Value} : q_G_lookAtChoice S (f + 1) 29 [a0, a1, a2, some (.int x)] st h = (q_G_lookAtChoice S f 30 [a0, a1, a2, some (.int x)] (.int x :: st) h) := by rw [q_G_lookAtChoice, hz_w_at d_G_lookAtChoice_29]; rfl
theorem d_G_lookAtChoice_30 : decode c_G_lookAtChoice 30 = .ok (.goto 8, 3) := by decide +kernel
theorem e_G_lookAtChoice_30 : q_G_lookAtChoice S (f + 1) 30 L st h = (q_G_lookAtChoice S f 38 L st h) := by rw [q_G_lookAtChoice, hz_w_at d_G_lookAtChoice_30]; rfl
theorem d_G_lookAtChoice_33 : decode c_G_lookAtChoice 33 = .ok (.aload_n 0, 1) := by decide +kernel
theorem e_G_lookAtChoice_33 {a1 a2 a3 : Option Value} : q_G_lookAtChoice S (f + 1) 33 [some (.ref i), a1, a2, a3] st h = (q_G_lookAtChoice S f 34 [some (.ref i), a1, a2, a3] (.ref i :: st) h) := by rw [q_G_lookAtChoice, hz_w_at d_G_lookAtChoice_33]; rfl
theorem e_G_lookAtChoice_33n {a1 a2 a3 : Option Value} : q_G_lookAtChoice S (f + 1) 33 [some .null, a1, a2, a3] st h = (q_G_lookAtChoice S f 34 [some .null, a1, a2, a3] (.null :: st) h) := by rw [q_G_lookAtChoice, hz_w_at d_G_lookAtChoice_33]; rfl
theorem d_G_lookAtChoice_34 : decode c_G_lookAtChoice 34 = .ok (.iload_n 3, 1) := by decide +kernel
theorem e_G_lookAtChoice_34 {a0 a1 a2 : Option Value} : q_G_lookAtChoice S (f + 1) 34 [a0, a1, a2, some (.int x)] st h = (q_G_lookAtChoice S f 35 [a0, a1, a2, some (.int x)] (.int x :: st) h) := by rw [q_G_lookAtChoice, hz_w_at d_G_lookAtChoice_34]; rfl
theorem d_G_lookAtChoice_35 : decode c_G_lookAtChoice 35 = .ok (.invokevirtual 70, 3) := by decide +kernel
theorem e_G_lookAtChoice_35 : q_G_lookAtChoice S (f + 1) 35 L st h = (S 35 L st h) := by rw [q_G_lookAtChoice, hz_w_at d_G_lookAtChoice_35]; rfl
theorem d_G_lookAtChoice_38 : decode c_G_lookAtChoice 38 = .ok (.invokevirtual 96, 3) := by decide +kernel
theorem e_G_lookAtChoice_38 : q_G_lookAtChoice S (f + 1) 38 L st h = (S 38 L st h) := by rw [q_G_lookAtChoice, hz_w_at d_G_lookAtChoice_38]; rfl
theorem d_G_lookAtChoice_41 : decode c_G_lookAtChoice 41 = .ok (.return_, 1) := by decide +kernel
theorem e_G_lookAtChoice_41 : q_G_lookAtChoice S (f + 1) 41 L st h = (S 41 L st h) := by rw [q_G_lookAtChoice, hz_w_at d_G_lookAtChoice_41]; rfl
end
abbrev q_G_lookAtSplit (S : Nat → List (Option Value) → List Value → hz_H → Prop) := hz_w zCl zKT f_G n_G c_G_lookAtSplit [] S
section
variable {S : Nat → List (Option Value) → List Value → hz_H → Prop} {f : Nat} {L : List (Option Value)} {st : List Value} {h : hz_H} {x y : Int32} {i j : Nat} {X Y : Int64}
theorem d_G_lookAtSplit_0 : decode c_G_lookAtSplit 0 = .ok (.iload_n 1, 1) := by decide +kernel
theorem e_G_lookAtSplit_0 {a0 a2 a3 a4 : Option Value} : q_G_lookAtSplit S (f + 1) 0 [a0, some (.int x), a2, a3, a4] st h = (q_G_lookAtSplit S f 1 [a0, some (.int x), a2, a3, a4] (.int x :: st) h) := by rw [q_G_lookAtSplit, hz_w_at d_G_lookAtSplit_0]; rfl
theorem d_G_lookAtSplit_1 : decode c_G_lookAtSplit 1 = .ok (.iconst 1, 1) := by decide +kernel
theorem e_G_lookAtSplit_1 : q_G_lookAtSplit S (f + 1) 1 L st h = (q_G_lookAtSplit S f 2 L (.int (hz_n 1) :: st) h) := by rw [q_G_lookAtSplit, hz_w_at d_G_lookAtSplit_1]; rfl
theorem d_G_lookAtSplit_2 : decode c_G_lookAtSplit 2 = .ok (.iadd, 1) := by decide +kernel
theorem e_G_lookAtSplit_2 : q_G_lookAtSplit S (f + 1) 2 L (.int y :: .int x :: st) h = (q_G_lookAtSplit S f 3 L (.int (x + y) :: st) h) := by rw [q_G_lookAtSplit, hz_w_at d_G_lookAtSplit_2]; rfl
theorem d_G_lookAtSplit_3 : decode c_G_lookAtSplit 3 = .ok (.istore_n 2, 1) := by decide +kernel
theorem e_G_lookAtSplit_3 {a0 a1 a2 a3 a4 : Option Value} : q_G_lookAtSplit S (f + 1) 3 [a0, a1, a2, a3, a4] (.int x :: st) h = (q_G_lookAtSplit S f 4 [a0, a1, some (.int x), a3, a4] st h) := by rw [q_G_lookAtSplit, hz_w_at d_G_lookAtSplit_3]; rfl
theorem d_G_lookAtSplit_4 : decode c_G_lookAtSplit 4 = .ok (.aload_n 0, 1) := by decide +kernel
theorem e_G_lookAtSplit_4 {a1 a2 a3 a4 : Option Value} : q_G_lookAtSplit S (f + 1) 4 [some (.ref i), a1, a2, a3, a4] st h = (q_G_lookAtSplit S f 5 [some (.ref i), a1, a2, a3, a4] (.ref i :: st) h) := by rw [q_G_lookAtSplit, hz_w_at d_G_lookAtSplit_4]; rfl
theorem e_G_lookAtSplit_4n {a1 a2 a3 a4 : Option Value} : q_G_lookAtSplit S (f + 1) 4 [some .null, a1, a2, a3, a4] st h = (q_G_lookAtSplit S f 5 [some .null, a1, a2, a3, a4] (.null :: st) h) := by rw [q_G_lookAtSplit, hz_w_at d_G_lookAtSplit_4]; rfl
theorem d_G_lookAtSplit_5 : decode c_G_lookAtSplit 5 = .ok (.iload_n 2, 1) := by decide +kernel
theorem e_G_lookAtSplit_5 {a0 a1 a3 a4 : Option Value} : q_G_lookAtSplit S (f + 1) 5 [a0, a1, some (.int x), a3, a4] st h = (q_G_lookAtSplit S f 6 [a0, a1, some (.int x), a3, a4] (.int x :: st) h) := by rw [q_G_lookAtSplit, hz_w_at d_G_lookAtSplit_5]; rfl
theorem d_G_lookAtSplit_6 : decode c_G_lookAtSplit 6 = .ok (.invokevirtual 61, 3) := by decide +kernel
theorem e_G_lookAtSplit_6 : q_G_lookAtSplit S (f + 1) 6 L st h = (S 6 L st h) := by rw [q_G_lookAtSplit, hz_w_at d_G_lookAtSplit_6]; rfl
theorem d_G_lookAtSplit_9 : decode c_G_lookAtSplit 9 = .ok (.ifCond .ne 4, 3) := by decide +kernel
theorem e_G_lookAtSplit_9 : q_G_lookAtSplit S (f + 1) 9 L (.int x :: st) h = ((¬ x.toInt = 0 → q_G_lookAtSplit S f 13 L st h) ∧ (¬ (¬ x.toInt = 0) → q_G_lookAtSplit S f 12 L st h)) := by rw [q_G_lookAtSplit, hz_w_at d_G_lookAtSplit_9]; rfl
theorem d_G_lookAtSplit_12 : decode c_G_lookAtSplit 12 = .ok (.return_, 1) := by decide +kernel
theorem e_G_lookAtSplit_12 : q_G_lookAtSplit S (f + 1) 12 L st h = (S 12 L st h) := by rw [q_G_lookAtSplit, hz_w_at d_G_lookAtSplit_12]; rfl
theorem d_G_lookAtSplit_13 : decode c_G_lookAtSplit 13 = .ok (.aload_n 0, 1) := by decide +kernel
theorem e_G_lookAtSplit_13 {a1 a2 a3 a4 : Option Value} : q_G_lookAtSplit S (f + 1) 13 [some (.ref i), a1, a2, a3, a4] st h = (q_G_lookAtSplit S f 14 [some (.ref i), a1, a2, a3, a4] (.ref i :: st) h) := by rw [q_G_lookAtSplit, hz_w_at d_G_lookAtSplit_13]; rfl
theorem e_G_lookAtSplit_13n {a1 a2 a3 a4 : Option Value} : q_G_lookAtSplit S (f + 1) 13 [some .null, a1, a2, a3, a4] st h = (q_G_lookAtSplit S f 14 [some .null, a1, a2, a3, a4] (.null :: st) h) := by rw [q_G_lookAtSplit, hz_w_at d_G_lookAtSplit_13]; rfl
theorem d_G_lookAtSplit_14 : decode c_G_lookAtSplit 14 = .ok (.iload_n 2, 1) := by decide +kernel
theorem e_G_lookAtSplit_14 {a0 a1 a3 a4 : Option Value} : q_G_lookAtSplit S (f + 1) 14 [a0, a1, some (.int x), a3, a4] st h = (q_G_lookAtSplit S f 15 [a0, a1, some (.int x), a3, a4] (.int x :: st) h) := by rw [q_G_lookAtSplit, hz_w_at d_G_lookAtSplit_14]; rfl
theorem d_G_lookAtSplit_15 : decode c_G_lookAtSplit 15 = .ok (.invokevirtual 70, 3) := by decide +kernel
theorem e_G_lookAtSplit_15 : q_G_lookAtSplit S (f + 1) 15 L st h = (S 15 L st h) := by rw [q_G_lookAtSplit, hz_w_at d_G_lookAtSplit_15]; rfl
theorem d_G_lookAtSplit_18 : decode c_G_lookAtSplit 18 = .ok (.istore_n 3, 1) := by decide +kernel
theorem e_G_lookAtSplit_18 {a0 a1 a2 a3 a4 : Option Value} : q_G_lookAtSplit S (f + 1) 18 [a0, a1, a2, a3, a4] (.int x :: st) h = (q_G_lookAtSplit S f 19 [a0, a1, a2, some (.int x), a4] st h) := by rw [q_G_lookAtSplit, hz_w_at d_G_lookAtSplit_18]; rfl
theorem d_G_lookAtSplit_19 : decode c_G_lookAtSplit 19 = .ok (.aload_n 0, 1) := by decide +kernel
theorem e_G_lookAtSplit_19 {a1 a2 a3 a4 : Option Value} : q_G_lookAtSplit S (f + 1) 19 [some (.ref i), a1, a2, a3, a4] st h = (q_G_lookAtSplit S f 20 [some (.ref i), a1, a2, a3, a4] (.ref i :: st) h) := by rw [q_G_lookAtSplit, hz_w_at d_G_lookAtSplit_19]; rfl
theorem e_G_lookAtSplit_19n {a1 a2 a3 a4 : Option Value} : q_G_lookAtSplit S (f + 1) 19 [some .null, a1, a2, a3, a4] st h = (q_G_lookAtSplit S f 20 [some .null, a1, a2, a3, a4] (.null :: st) h) := by rw [q_G_lookAtSplit, hz_w_at d_G_lookAtSplit_19]; rfl
theorem d_G_lookAtSplit_20 : decode c_G_lookAtSplit 20 = .ok (.getfield 24, 3) := by decide +kernel
theorem e_G_lookAtSplit_20 : q_G_lookAtSplit S (f + 1) 20 L (.ref i :: st) h = (hz_rd h i 1 3 fun v => q_G_lookAtSplit S f 23 L (v :: st) h) := by rw [q_G_lookAtSplit, hz_w_at d_G_lookAtSplit_20]; rfl
theorem d_G_lookAtSplit_23 : decode c_G_lookAtSplit 23 = .ok (.iload_n 2, 1) := by decide +kernel
theorem e_G_lookAtSplit_23 {a0 a1 a3 a4 : Option Value} : q_G_lookAtSplit S (f + 1) 23 [a0, a1, some (.int x), a3, a4] st h = (q_G_lookAtSplit S f 24 [a0, a1, some (.int x), a3, a4] (.int x :: st) h) := by rw [q_G_lookAtSplit, hz_w_at d_G_lookAtSplit_23]; rfl
theorem d_G_lookAtSplit_24 : decode c_G_lookAtSplit 24 = .ok (.iaload, 1) := by decide +kernel
theorem e_G_lookAtSplit_24 : q_G_lookAtSplit S (f + 1) 24 L (.int x :: .ref i :: st) h = (hz_ea zKT hz_kI h i x fun v => q_G_lookAtSplit S f 25 L (v :: st) h) := by rw [q_G_lookAtSplit, hz_w_at d_G_lookAtSplit_24]; rfl
theorem d_G_lookAtSplit_25 : decode c_G_lookAtSplit 25 = .ok (.iconst 3, 1) := by decide +kernel
theorem e_G_lookAtSplit_25 : q_G_lookAtSplit S (f + 1) 25 L st h = (q_G_lookAtSplit S f 26 L (.int (hz_n 3) :: st) h) := by rw [q_G_lookAtSplit, hz_w_at d_G_lookAtSplit_25]; rfl
theorem d_G_lookAtSplit_26 : decode c_G_lookAtSplit 26 = .ok (.if_icmp .ne 12, 3) := by decide +kernel
theorem e_G_lookAtSplit_26 : q_G_lookAtSplit S (f + 1) 26 L (.int y :: .int x :: st) h = ((¬ x.toInt = y.toInt → q_G_lookAtSplit S f 38 L st h) ∧ (¬ (¬ x.toInt = y.toInt) → q_G_lookAtSplit S f 29 L st h)) := by rw [q_G_lookAtSplit, hz_w_at d_G_lookAtSplit_26]; rfl
theorem d_G_lookAtSplit_29 : decode c_G_lookAtSplit 29 = .ok (.aload_n 0, 1) := by decide +kernel
theorem e_G_lookAtSplit_29 {a1 a2 a3 a4 : Option Value} : q_G_lookAtSplit S (f + 1) 29 [some (.ref i), a1, a2, a3, a4] st h = (q_G_lookAtSplit S f 30 [some (.ref i), a1, a2, a3, a4] (.ref i :: st) h) := by rw [q_G_lookAtSplit, hz_w_at d_G_lookAtSplit_29]; rfl
theorem e_G_lookAtSplit_29n {a1 a2 a3 a4 : Option Value} : q_G_lookAtSplit S (f + 1) 29 [some .null, a1, a2, a3, a4] st h = (q_G_lookAtSplit S f 30 [some .null, a1, a2, a3, a4] (.null :: st) h) := by rw [q_G_lookAtSplit, hz_w_at d_G_lookAtSplit_29]; rfl
theorem d_G_lookAtSplit_30 : decode c_G_lookAtSplit 30 = .ok (.iload_n 1, 1) := by decide +kernel
theorem e_G_lookAtSplit_30 {a0 a2 a3 a4 : Option Value} : q_G_lookAtSplit S (f + 1) 30 [a0, some (.int x), a2, a3, a4] st h = (q_G_lookAtSplit S f 31 [a0, some (.int x), a2, a3, a4] (.int x :: st) h) := by rw [q_G_lookAtSplit, hz_w_at d_G_lookAtSplit_30]; rfl
theorem d_G_lookAtSplit_31 : decode c_G_lookAtSplit 31 = .ok (.iload_n 3, 1) := by decide +kernel
theorem e_G_lookAtSplit_31 {a0 a1 a2 a4 : Option Value} : q_G_lookAtSplit S (f + 1) 31 [a0, a1, a2, some (.int x), a4] st h = (q_G_lookAtSplit S f 32 [a0, a1, a2, some (.int x), a4] (.int x :: st) h) := by rw [q_G_lookAtSplit, hz_w_at d_G_lookAtSplit_31]; rfl
theorem d_G_lookAtSplit_32 : decode c_G_lookAtSplit 32 = .ok (.invokevirtual 96, 3) := by decide +kernel
theorem e_G_lookAtSplit_32 : q_G_lookAtSplit S (f + 1) 32 L st h = (S 32 L st h) := by rw [q_G_lookAtSplit, hz_w_at d_G_lookAtSplit_32]; rfl
theorem d_G_lookAtSplit_35 : decode c_G_lookAtSplit 35 = .ok (.goto 74, 3) := by decide +kernel
theorem e_G_lookAtSplit_35 : q_G_lookAtSplit S (f + 1) 35 L st h = (q_G_lookAtSplit S f 109 L st h) := by rw [q_G_lookAtSplit, hz_w_at d_G_lookAtSplit_35]; rfl
theorem d_G_lookAtSplit_38 : decode c_G_lookAtSplit 38 = .ok (.aload_n 0, 1) := by decide +kernel
theorem e_G_lookAtSplit_38 {a1 a2 a3 a4 : Option Value} : q_G_lookAtSplit S (f + 1) 38 [some (.ref i), a1, a2, a3, a4] st h = (q_G_lookAtSplit S f 39 [some (.ref i), a1, a2, a3, a4] (.ref i :: st) h) := by rw [q_G_lookAtSplit, hz_w_at d_G_lookAtSplit_38]; rfl
theorem e_G_lookAtSplit_38n {a1 a2 a3 a4 : Option Value} : q_G_lookAtSplit S (f + 1) 38 [some .null, a1, a2, a3, a4] st h = (q_G_lookAtSplit S f 39 [some .null, a1, a2, a3, a4] (.null :: st) h) := by rw [q_G_lookAtSplit, hz_w_at d_G_lookAtSplit_38]; rfl
theorem d_G_lookAtSplit_39 : decode c_G_lookAtSplit 39 = .ok (.getfield 24, 3) := by decide +kernel
theorem e_G_lookAtSplit_39 : q_G_lookAtSplit S (f + 1) 39 L (.ref i :: st) h = (hz_rd h i 1 3 fun v => q_G_lookAtSplit S f 42 L (v :: st) h) := by rw [q_G_lookAtSplit, hz_w_at d_G_lookAtSplit_39]; rfl
theorem d_G_lookAtSplit_42 : decode c_G_lookAtSplit 42 = .ok (.iload_n 2, 1) := by decide +kernel
theorem e_G_lookAtSplit_42 {a0 a1 a3 a4 : Option Value} : q_G_lookAtSplit S (f + 1) 42 [a0, a1, some (.int x), a3, a4] st h = (q_G_lookAtSplit S f 43 [a0, a1, some (.int x), a3, a4] (.int x :: st) h) := by rw [q_G_lookAtSplit, hz_w_at d_G_lookAtSplit_42]; rfl
theorem d_G_lookAtSplit_43 : decode c_G_lookAtSplit 43 = .ok (.iaload, 1) := by decide +kernel
theorem e_G_lookAtSplit_43 : q_G_lookAtSplit S (f + 1) 43 L (.int x :: .ref i :: st) h = (hz_ea zKT hz_kI h i x fun v => q_G_lookAtSplit S f 44 L (v :: st) h) := by rw [q_G_lookAtSplit, hz_w_at d_G_lookAtSplit_43]; rfl
theorem d_G_lookAtSplit_44 : decode c_G_lookAtSplit 44 = .ok (.iconst 4, 1) := by decide +kernel
theorem e_G_lookAtSplit_44 : q_G_lookAtSplit S (f + 1) 44 L st h = (q_G_lookAtSplit S f 45 L (.int (hz_n 4) :: st) h) := by rw [q_G_lookAtSplit, hz_w_at d_G_lookAtSplit_44]; rfl
theorem d_G_lookAtSplit_45 : decode c_G_lookAtSplit 45 = .ok (.if_icmp .ne 58, 3) := by decide +kernel
theorem e_G_lookAtSplit_45 : q_G_lookAtSplit S (f + 1) 45 L (.int y :: .int x :: st) h = ((¬ x.toInt = y.toInt → q_G_lookAtSplit S f 103 L st h) ∧ (¬ (¬ x.toInt = y.toInt) → q_G_lookAtSplit S f 48 L st h)) := by rw [q_G_lookAtSplit, hz_w_at d_G_lookAtSplit_45]; rfl
theorem d_G_lookAtSplit_48 : decode c_G_lookAtSplit 48 = .ok (.aload_n 0, 1) := by decide +kernel
theorem e_G_lookAtSplit_48 {a1 a2 a3 a4 : Option Value} : q_G_lookAtSplit S (f + 1) 48 [some (.ref i), a1, a2, a3, a4] st h = (q_G_lookAtSplit S f 49 [some (.ref i), a1, a2, a3, a4] (.ref i :: st) h) := by rw [q_G_lookAtSplit, hz_w_at d_G_lookAtSplit_48]; rfl
theorem e_G_lookAtSplit_48n {a1 a2 a3 a4 : Option Value} : q_G_lookAtSplit S (f + 1) 48 [some .null, a1, a2, a3, a4] st h = (q_G_lookAtSplit S f 49 [some .null, a1, a2, a3, a4] (.null :: st) h) := by rw [q_G_lookAtSplit, hz_w_at d_G_lookAtSplit_48]; rfl
theorem d_G_lookAtSplit_49 : decode c_G_lookAtSplit 49 = .ok (.iload_n 3, 1) := by decide +kernel
theorem e_G_lookAtSplit_49 {a0 a1 a2 a4 : Option Value} : q_G_lookAtSplit S (f + 1) 49 [a0, a1, a2, some (.int x), a4] st h = (q_G_lookAtSplit S f 50 [a0, a1, a2, some (.int x), a4] (.int x :: st) h) := by rw [q_G_lookAtSplit, hz_w_at d_G_lookAtSplit_49]; rfl
theorem d_G_lookAtSplit_50 : decode c_G_lookAtSplit 50 = .ok (.invokevirtual 70, 3) := by decide +kernel
theorem e_G_lookAtSplit_50 : q_G_lookAtSplit S (f + 1) 50 L st h = (S 50 L st h) := by rw [q_G_lookAtSplit, hz_w_at d_G_lookAtSplit_50]; rfl
theorem d_G_lookAtSplit_53 : decode c_G_lookAtSplit 53 = .ok (.istore 4, 2) := by decide +kernel
theorem e_G_lookAtSplit_53 {a0 a1 a2 a3 a4 : Option Value} : q_G_lookAtSplit S (f + 1) 53 [a0, a1, a2, a3, a4] (.int x :: st) h = (q_G_lookAtSplit S f 55 [a0, a1, a2, a3, some (.int x)] st h) := by rw [q_G_lookAtSplit, hz_w_at d_G_lookAtSplit_53]; rfl
theorem d_G_lookAtSplit_55 : decode c_G_lookAtSplit 55 = .ok (.aload_n 0, 1) := by decide +kernel
theorem e_G_lookAtSplit_55 {a1 a2 a3 a4 : Option Value} : q_G_lookAtSplit S (f + 1) 55 [some (.ref i), a1, a2, a3, a4] st h = (q_G_lookAtSplit S f 56 [some (.ref i), a1, a2, a3, a4] (.ref i :: st) h) := by rw [q_G_lookAtSplit, hz_w_at d_G_lookAtSplit_55]; rfl
theorem e_G_lookAtSplit_55n {a1 a2 a3 a4 : Option Value} : q_G_lookAtSplit S (f + 1) 55 [some .null, a1, a2, a3, a4] st h = (q_G_lookAtSplit S f 56 [some .null, a1, a2, a3, a4] (.null :: st) h) := by rw [q_G_lookAtSplit, hz_w_at d_G_lookAtSplit_55]; rfl
theorem d_G_lookAtSplit_56 : decode c_G_lookAtSplit 56 = .ok (.getfield 27, 3) := by decide +kernel
theorem e_G_lookAtSplit_56 : q_G_lookAtSplit S (f + 1) 56 L (.ref i :: st) h = (hz_rd h i 1 4 fun v => q_G_lookAtSplit S f 59 L (v :: st) h) := by rw [q_G_lookAtSplit, hz_w_at d_G_lookAtSplit_56]; rfl
theorem d_G_lookAtSplit_59 : decode c_G_lookAtSplit 59 = .ok (.iload 4, 2) := by decide +kernel
theorem e_G_lookAtSplit_59 {a0 a1 a2 a3 : Option Value} : q_G_lookAtSplit S (f + 1) 59 [a0, a1, a2, a3, some (.int x)] st h = (q_G_lookAtSplit S f 61 [a0, a1, a2, a3, some (.int x)] (.int x :: st) h) := by rw [q_G_lookAtSplit, hz_w_at d_G_lookAtSplit_59]; rfl
theorem d_G_lookAtSplit_61 : decode c_G_lookAtSplit 61 = .ok (.iconst 2, 1) := by decide +kernel
theorem e_G_lookAtSplit_61 : q_G_lookAtSplit S (f + 1) 61 L st h = (q_G_lookAtSplit S f 62 L (.int (hz_n 2) :: st) h) := by rw [q_G_lookAtSplit, hz_w_at d_G_lookAtSplit_61]; rfl
theorem d_G_lookAtSplit_62 : decode c_G_lookAtSplit 62 = .ok (.isub, 1) := by decide +kernel
theorem e_G_lookAtSplit_62 : q_G_lookAtSplit S (f + 1) 62 L (.int y :: .int x :: st) h = (q_G_lookAtSplit S f 63 L (.int (x - y) :: st) h) := by rw [q_G_lookAtSplit, hz_w_at d_G_lookAtSplit_62]; rfl
theorem d_G_lookAtSplit_63 : decode c_G_lookAtSplit 63 = .ok (.aload_n 0, 1) := by decide +kernel
theorem e_G_lookAtSplit_63 {a1 a2 a3 a4 : Option Value} : q_G_lookAtSplit S (f + 1) 63 [some (.ref i), a1, a2, a3, a4] st h = (q_G_lookAtSplit S f 64 [some (.ref i), a1, a2, a3, a4] (.ref i :: st) h) := by rw [q_G_lookAtSplit, hz_w_at d_G_lookAtSplit_63]; rfl
theorem e_G_lookAtSplit_63n {a1 a2 a3 a4 : Option Value} : q_G_lookAtSplit S (f + 1) 63 [some .null, a1, a2, a3, a4] st h = (q_G_lookAtSplit S f 64 [some .null, a1, a2, a3, a4] (.null :: st) h) := by rw [q_G_lookAtSplit, hz_w_at d_G_lookAtSplit_63]; rfl
theorem d_G_lookAtSplit_64 : decode c_G_lookAtSplit 64 = .ok (.aload_n 0, 1) := by decide +kernel
theorem e_G_lookAtSplit_64 {a1 a2 a3 a4 : Option Value} : q_G_lookAtSplit S (f + 1) 64 [some (.ref i), a1, a2, a3, a4] st h = (q_G_lookAtSplit S f 65 [some (.ref i), a1, a2, a3, a4] (.ref i :: st) h) := by rw [q_G_lookAtSplit, hz_w_at d_G_lookAtSplit_64]; rfl
theorem e_G_lookAtSplit_64n {a1 a2 a3 a4 : Option Value} : q_G_lookAtSplit S (f + 1) 64 [some .null, a1, a2, a3, a4] st h = (q_G_lookAtSplit S f 65 [some .null, a1, a2, a3, a4] (.null :: st) h) := by rw [q_G_lookAtSplit, hz_w_at d_G_lookAtSplit_64]; rfl
theorem d_G_lookAtSplit_65 : decode c_G_lookAtSplit 65 = .ok (.getfield 27, 3) := by decide +kernel
theorem e_G_lookAtSplit_65 : q_G_lookAtSplit S (f + 1) 65 L (.ref i :: st) h = (hz_rd h i 1 4 fun v => q_G_lookAtSplit S f 68 L (v :: st) h) := by rw [q_G_lookAtSplit, hz_w_at d_G_lookAtSplit_65]; rfl
theorem d_G_lookAtSplit_68 : decode c_G_lookAtSplit 68 = .ok (.iload_n 2, 1) := by decide +kernel
theorem e_G_lookAtSplit_68 {a0 a1 a3 a4 : Option Value} : q_G_lookAtSplit S (f + 1) 68 [a0, a1, some (.int x), a3, a4] st h = (q_G_lookAtSplit S f 69 [a0, a1, some (.int x), a3, a4] (.int x :: st) h) := by rw [q_G_lookAtSplit, hz_w_at d_G_lookAtSplit_68]; rfl
theorem d_G_lookAtSplit_69 : decode c_G_lookAtSplit 69 = .ok (.iaload, 1) := by decide +kernel
theorem e_G_lookAtSplit_69 : q_G_lookAtSplit S (f + 1) 69 L (.int x :: .ref i :: st) h = (hz_ea zKT hz_kI h i x fun v => q_G_lookAtSplit S f 70 L (v :: st) h) := by rw [q_G_lookAtSplit, hz_w_at d_G_lookAtSplit_69]; rfl
theorem d_G_lookAtSplit_70 : decode c_G_lookAtSplit 70 = .ok (.invokevirtual 132, 3) := by decide +kernel
theorem e_G_lookAtSplit_70 : q_G_lookAtSplit S (f + 1) 70 L st h = (S 70 L st h) := by rw [q_G_lookAtSplit, hz_w_at d_G_lookAtSplit_70]; rfl
theorem d_G_lookAtSplit_73 : decode c_G_lookAtSplit 73 = .ok (.iastore, 1) := by decide +kernel
theorem e_G_lookAtSplit_73 : q_G_lookAtSplit S (f + 1) 73 L (.int y :: .int x :: .ref i :: st) h = (hz_es zKT hz_kI h i x (.int y) fun h => q_G_lookAtSplit S f 74 L st h) := by rw [q_G_lookAtSplit, hz_w_at d_G_lookAtSplit_73]; rfl
theorem d_G_lookAtSplit_74 : decode c_G_lookAtSplit 74 = .ok (.aload_n 0, 1) := by decide +kernel
theorem e_G_lookAtSplit_74 {a1 a2 a3 a4 : Option Value} : q_G_lookAtSplit S (f + 1) 74 [some (.ref i), a1, a2, a3, a4] st h = (q_G_lookAtSplit S f 75 [some (.ref i), a1, a2, a3, a4] (.ref i :: st) h) := by rw [q_G_lookAtSplit, hz_w_at d_G_lookAtSplit_74]; rfl
theorem e_G_lookAtSplit_74n {a1 a2 a3 a4 : Option Value} : q_G_lookAtSplit S (f + 1) 74 [some .null, a1, a2, a3, a4] st h = (q_G_lookAtSplit S f 75 [some .null, a1, a2, a3, a4] (.null :: st) h) := by rw [q_G_lookAtSplit, hz_w_at d_G_lookAtSplit_74]; rfl
theorem d_G_lookAtSplit_75 : decode c_G_lookAtSplit 75 = .ok (.getfield 27, 3) := by decide +kernel
theorem e_G_lookAtSplit_75 : q_G_lookAtSplit S (f + 1) 75 L (.ref i :: st) h = (hz_rd h i 1 4 fun v => q_G_lookAtSplit S f 78 L (v :: st) h) := by rw [q_G_lookAtSplit, hz_w_at d_G_lookAtSplit_75]; rfl
theorem d_G_lookAtSplit_78 : decode c_G_lookAtSplit 78 = .ok (.iload 4, 2) := by decide +kernel
theorem e_G_lookAtSplit_78 {a0 a1 a2 a3 : Option Value} : q_G_lookAtSplit S (f + 1) 78 [a0, a1, a2, a3, some (.int x)] st h = (q_G_lookAtSplit S f 80 [a0, a1, a2, a3, some (.int x)] (.int x :: st) h) := by rw [q_G_lookAtSplit, hz_w_at d_G_lookAtSplit_78]; rfl
theorem d_G_lookAtSplit_80 : decode c_G_lookAtSplit 80 = .ok (.iconst 1, 1) := by decide +kernel
theorem e_G_lookAtSplit_80 : q_G_lookAtSplit S (f + 1) 80 L st h = (q_G_lookAtSplit S f 81 L (.int (hz_n 1) :: st) h) := by rw [q_G_lookAtSplit, hz_w_at d_G_lookAtSplit_80]; rfl
theorem d_G_lookAtSplit_81 : decode c_G_lookAtSplit 81 = .ok (.isub, 1) := by decide +kernel
theorem e_G_lookAtSplit_81 : q_G_lookAtSplit S (f + 1) 81 L (.int y :: .int x :: st) h = (q_G_lookAtSplit S f 82 L (.int (x - y) :: st) h) := by rw [q_G_lookAtSplit, hz_w_at d_G_lookAtSplit_81]; rfl
theorem d_G_lookAtSplit_82 : decode c_G_lookAtSplit 82 = .ok (.aload_n 0, 1) := by decide +kernel
theorem e_G_lookAtSplit_82 {a1 a2 a3 a4 : Option Value} : q_G_lookAtSplit S (f + 1) 82 [some (.ref i), a1, a2, a3, a4] st h = (q_G_lookAtSplit S f 83 [some (.ref i), a1, a2, a3, a4] (.ref i :: st) h) := by rw [q_G_lookAtSplit, hz_w_at d_G_lookAtSplit_82]; rfl
theorem e_G_lookAtSplit_82n {a1 a2 a3 a4 : Option Value} : q_G_lookAtSplit S (f + 1) 82 [some .null, a1, a2, a3, a4] st h = (q_G_lookAtSplit S f 83 [some .null, a1, a2, a3, a4] (.null :: st) h) := by rw [q_G_lookAtSplit, hz_w_at d_G_lookAtSplit_82]; rfl
theorem d_G_lookAtSplit_83 : decode c_G_lookAtSplit 83 = .ok (.aload_n 0, 1) := by decide +kernel
theorem e_G_lookAtSplit_83 {a1 a2 a3 a4 : Option Value} : q_G_lookAtSplit S (f + 1) 83 [some (.ref i), a1, a2, a3, a4] st h = (q_G_lookAtSplit S f 84 [some (.ref i), a1, a2, a3, a4] (.ref i :: st) h) := by rw [q_G_lookAtSplit, hz_w_at d_G_lookAtSplit_83]; rfl
theorem e_G_lookAtSplit_83n {a1 a2 a3 a4 : Option Value} : q_G_lookAtSplit S (f + 1) 83 [some .null, a1, a2, a3, a4] st h = (q_G_lookAtSplit S f 84 [some .null, a1, a2, a3, a4] (.null :: st) h) := by rw [q_G_lookAtSplit, hz_w_at d_G_lookAtSplit_83]; rfl
theorem d_G_lookAtSplit_84 : decode c_G_lookAtSplit 84 = .ok (.getfield 27, 3) := by decide +kernel
theorem e_G_lookAtSplit_84 : q_G_lookAtSplit S (f + 1) 84 L (.ref i :: st) h = (hz_rd h i 1 4 fun v => q_G_lookAtSplit S f 87 L (v :: st) h) := by rw [q_G_lookAtSplit, hz_w_at d_G_lookAtSplit_84]; rfl
theorem d_G_lookAtSplit_87 : decode c_G_lookAtSplit 87 = .ok (.iload_n 2, 1) := by decide +kernel
theorem e_G_lookAtSplit_87 {a0 a1 a3 a4 : Option Value} : q_G_lookAtSplit S (f + 1) 87 [a0, a1, some (.int x), a3, a4] st h = (q_G_lookAtSplit S f 88 [a0, a1, some (.int x), a3, a4] (.int x :: st) h) := by rw [q_G_lookAtSplit, hz_w_at d_G_lookAtSplit_87]; rfl
theorem d_G_lookAtSplit_88 : decode c_G_lookAtSplit 88 = .ok (.iaload, 1) := by decide +kernel
theorem e_G_lookAtSplit_88 : q_G_lookAtSplit S (f + 1) 88 L (.int x :: .ref i :: st) h = (hz_ea zKT hz_kI h i x fun v => q_G_lookAtSplit S f 89 L (v :: st) h) := by rw [q_G_lookAtSplit, hz_w_at d_G_lookAtSplit_88]; rfl
theorem d_G_lookAtSplit_89 : decode c_G_lookAtSplit 89 = .ok (.invokevirtual 135, 3) := by decide +kernel
theorem e_G_lookAtSplit_89 : q_G_lookAtSplit S (f + 1) 89 L st h = (S 89 L st h) := by rw [q_G_lookAtSplit, hz_w_at d_G_lookAtSplit_89]; rfl
theorem d_G_lookAtSplit_92 : decode c_G_lookAtSplit 92 = .ok (.iastore, 1) := by decide +kernel
theorem e_G_lookAtSplit_92 : q_G_lookAtSplit S (f + 1) 92 L (.int y :: .int x :: .ref i :: st) h = (hz_es zKT hz_kI h i x (.int y) fun h => q_G_lookAtSplit S f 93 L st h) := by rw [q_G_lookAtSplit, hz_w_at d_G_lookAtSplit_92]; rfl
theorem d_G_lookAtSplit_93 : decode c_G_lookAtSplit 93 = .ok (.aload_n 0, 1) := by decide +kernel
theorem e_G_lookAtSplit_93 {a1 a2 a3 a4 : Option Value} : q_G_lookAtSplit S (f + 1) 93 [some (.ref i), a1, a2, a3, a4] st h = (q_G_lookAtSplit S f 94 [some (.ref i), a1, a2, a3, a4] (.ref i :: st) h) := by rw [q_G_lookAtSplit, hz_w_at d_G_lookAtSplit_93]; rfl
theorem e_G_lookAtSplit_93n {a1 a2 a3 a4 : Option Value} : q_G_lookAtSplit S (f + 1) 93 [some .null, a1, a2, a3, a4] st h = (q_G_lookAtSplit S f 94 [some .null, a1, a2, a3, a4] (.null :: st) h) := by rw [q_G_lookAtSplit, hz_w_at d_G_lookAtSplit_93]; rfl
theorem d_G_lookAtSplit_94 : decode c_G_lookAtSplit 94 = .ok (.iload_n 1, 1) := by decide +kernel
theorem e_G_lookAtSplit_94 {a0 a2 a3 a4 : Option Value} : q_G_lookAtSplit S (f + 1) 94 [a0, some (.int x), a2, a3, a4] st h = (q_G_lookAtSplit S f 95 [a0, some (.int x), a2, a3, a4] (.int x :: st) h) := by rw [q_G_lookAtSplit, hz_w_at d_G_lookAtSplit_94]; rfl
theorem d_G_lookAtSplit_95 : decode c_G_lookAtSplit 95 = .ok (.iload 4, 2) := by decide +kernel
theorem e_G_lookAtSplit_95 {a0 a1 a2 a3 : Option Value} : q_G_lookAtSplit S (f + 1) 95 [a0, a1, a2, a3, some (.int x)] st h = (q_G_lookAtSplit S f 97 [a0, a1, a2, a3, some (.int x)] (.int x :: st) h) := by rw [q_G_lookAtSplit, hz_w_at d_G_lookAtSplit_95]; rfl
theorem d_G_lookAtSplit_97 : decode c_G_lookAtSplit 97 = .ok (.invokevirtual 96, 3) := by decide +kernel
theorem e_G_lookAtSplit_97 : q_G_lookAtSplit S (f + 1) 97 L st h = (S 97 L st h) := by rw [q_G_lookAtSplit, hz_w_at d_G_lookAtSplit_97]; rfl
theorem d_G_lookAtSplit_100 : decode c_G_lookAtSplit 100 = .ok (.goto 9, 3) := by decide +kernel
theorem e_G_lookAtSplit_100 : q_G_lookAtSplit S (f + 1) 100 L st h = (q_G_lookAtSplit S f 109 L st h) := by rw [q_G_lookAtSplit, hz_w_at d_G_lookAtSplit_100]; rfl
theorem d_G_lookAtSplit_103 : decode c_G_lookAtSplit 103 = .ok (.aload_n 0, 1) := by decide +kernel
theorem e_G_lookAtSplit_103 {a1 a2 a3 a4 : Option Value} : q_G_lookAtSplit S (f + 1) 103 [some (.ref i), a1, a2, a3, a4] st h = (q_G_lookAtSplit S f 104 [some (.ref i), a1, a2, a3, a4] (.ref i :: st) h) := by rw [q_G_lookAtSplit, hz_w_at d_G_lookAtSplit_103]; rfl
theorem e_G_lookAtSplit_103n {a1 a2 a3 a4 : Option Value} : q_G_lookAtSplit S (f + 1) 103 [some .null, a1, a2, a3, a4] st h = (q_G_lookAtSplit S f 104 [some .null, a1, a2, a3, a4] (.null :: st) h) := by rw [q_G_lookAtSplit, hz_w_at d_G_lookAtSplit_103]; rfl
theorem d_G_lookAtSplit_104 : decode c_G_lookAtSplit 104 = .ok (.bipush (-3), 2) := by decide +kernel
theorem e_G_lookAtSplit_104 : q_G_lookAtSplit S (f + 1) 104 L st h = (q_G_lookAtSplit S f 106 L (.int (hz_n (-3)) :: st) h) := by rw [q_G_lookAtSplit, hz_w_at d_G_lookAtSplit_104]; rfl
theorem d_G_lookAtSplit_106 : decode c_G_lookAtSplit 106 = .ok (.putfield 55, 3) := by decide +kernel
theorem e_G_lookAtSplit_106 : q_G_lookAtSplit S (f + 1) 106 L (.int x :: .ref i :: st) h = (hz_wr h i 1 13 (.int x) fun h => q_G_lookAtSplit S f 109 L st h) := by rw [q_G_lookAtSplit, hz_w_at d_G_lookAtSplit_106]; rfl
theorem d_G_lookAtSplit_109 : decode c_G_lookAtSplit 109 = .ok (.return_, 1) := by decide +kernel
theorem e_G_lookAtSplit_109 : q_G_lookAtSplit S (f + 1) 109 L st h = (S 109 L st h) := by rw [q_G_lookAtSplit, hz_w_at d_G_lookAtSplit_109]; rfl
end
abbrev q_G_lookAtArithmetic (S : Nat → List (Option Value) → List Value → hz_H → Prop) := hz_w zCl zKT f_G n_G c_G_lookAtArithmetic [] S
section
variable {S : Nat → List (Option Value) → List Value → hz_H → Prop} {f : Nat} {L : List (Option Value)} {st : List Value} {h : hz_H} {x y : Int32} {i j : Nat} {X Y : Int64}
theorem d_G_lookAtArithmetic_0 : decode c_G_lookAtArithmetic 0 = .ok (.iload_n 1, 1) := by decide +kernel
theorem e_G_lookAtArithmetic_0 {a0 a2 a3 a4 : Option Value} : q_G_lookAtArithmetic S (f + 1) 0 [a0, some (.int x), a2, a3, a4] st h = (q_G_lookAtArithmetic S f 1 [a0, some (.int x), a2, a3, a4] (.int x :: st) h) := by rw [q_G_lookAtArithmetic, hz_w_at d_G_lookAtArithmetic_0]; rfl
theorem d_G_lookAtArithmetic_1 : decode c_G_lookAtArithmetic 1 = .ok (.iconst 1, 1) := by decide +kernel
theorem e_G_lookAtArithmetic_1 : q_G_lookAtArithmetic S (f + 1) 1 L st h = (q_G_lookAtArithmetic S f 2 L (.int (hz_n 1) :: st) h) := by rw [q_G_lookAtArithmetic, hz_w_at d_G_lookAtArithmetic_1]; rfl
theorem d_G_lookAtArithmetic_2 : decode c_G_lookAtArithmetic 2 = .ok (.iadd, 1) := by decide +kernel
theorem e_G_lookAtArithmetic_2 : q_G_lookAtArithmetic S (f + 1) 2 L (.int y :: .int x :: st) h = (q_G_lookAtArithmetic S f 3 L (.int (x + y) :: st) h) := by rw [q_G_lookAtArithmetic, hz_w_at d_G_lookAtArithmetic_2]; rfl
theorem d_G_lookAtArithmetic_3 : decode c_G_lookAtArithmetic 3 = .ok (.istore_n 3, 1) := by decide +kernel
theorem e_G_lookAtArithmetic_3 {a0 a1 a2 a3 a4 : Option Value} : q_G_lookAtArithmetic S (f + 1) 3 [a0, a1, a2, a3, a4] (.int x :: st) h = (q_G_lookAtArithmetic S f 4 [a0, a1, a2, some (.int x), a4] st h) := by rw [q_G_lookAtArithmetic, hz_w_at d_G_lookAtArithmetic_3]; rfl
theorem d_G_lookAtArithmetic_4 : decode c_G_lookAtArithmetic 4 = .ok (.aload_n 0, 1) := by decide +kernel
theorem e_G_lookAtArithmetic_4 {a1 a2 a3 a4 : Option Value} : q_G_lookAtArithmetic S (f + 1) 4 [some (.ref i), a1, a2, a3, a4] st h = (q_G_lookAtArithmetic S f 5 [some (.ref i), a1, a2, a3, a4] (.ref i :: st) h) := by rw [q_G_lookAtArithmetic, hz_w_at d_G_lookAtArithmetic_4]; rfl
theorem e_G_lookAtArithmetic_4n {a1 a2 a3 a4 : Option Value} : q_G_lookAtArithmetic S (f + 1) 4 [some .null, a1, a2, a3, a4] st h = (q_G_lookAtArithmetic S f 5 [some .null, a1, a2, a3, a4] (.null :: st) h) := by rw [q_G_lookAtArithmetic, hz_w_at d_G_lookAtArithmetic_4]; rfl
theorem d_G_lookAtArithmetic_5 : decode c_G_lookAtArithmetic 5 = .ok (.iload_n 3, 1) := by decide +kernel
theorem e_G_lookAtArithmetic_5 {a0 a1 a2 a4 : Option Value} : q_G_lookAtArithmetic S (f + 1) 5 [a0, a1, a2, some (.int x), a4] st h = (q_G_lookAtArithmetic S f 6 [a0, a1, a2, some (.int x), a4] (.int x :: st) h) := by rw [q_G_lookAtArithmetic, hz_w_at d_G_lookAtArithmetic_5]; rfl
theorem d_G_lookAtArithmetic_6 : decode c_G_lookAtArithmetic 6 = .ok (.invokevirtual 129, 3) := by decide +kernel
theorem e_G_lookAtArithmetic_6 : q_G_lookAtArithmetic S (f + 1) 6 L st h = (S 6 L st h) := by rw [q_G_lookAtArithmetic, hz_w_at d_G_lookAtArithmetic_6]; rfl
theorem d_G_lookAtArithmetic_9 : decode c_G_lookAtArithmetic 9 = .ok (.ifCond .eq 42, 3) := by decide +kernel
theorem e_G_lookAtArithmetic_9 : q_G_lookAtArithmetic S (f + 1) 9 L (.int x :: st) h = ((x.toInt = 0 → q_G_lookAtArithmetic S f 51 L st h) ∧ (¬ (x.toInt = 0) → q_G_lookAtArithmetic S f 12 L st h)) := by rw [q_G_lookAtArithmetic, hz_w_at d_G_lookAtArithmetic_9]; rfl
theorem d_G_lookAtArithmetic_12 : decode c_G_lookAtArithmetic 12 = .ok (.aload_n 0, 1) := by decide +kernel
theorem e_G_lookAtArithmetic_12 {a1 a2 a3 a4 : Option Value} : q_G_lookAtArithmetic S (f + 1) 12 [some (.ref i), a1, a2, a3, a4] st h = (q_G_lookAtArithmetic S f 13 [some (.ref i), a1, a2, a3, a4] (.ref i :: st) h) := by rw [q_G_lookAtArithmetic, hz_w_at d_G_lookAtArithmetic_12]; rfl
theorem e_G_lookAtArithmetic_12n {a1 a2 a3 a4 : Option Value} : q_G_lookAtArithmetic S (f + 1) 12 [some .null, a1, a2, a3, a4] st h = (q_G_lookAtArithmetic S f 13 [some .null, a1, a2, a3, a4] (.null :: st) h) := by rw [q_G_lookAtArithmetic, hz_w_at d_G_lookAtArithmetic_12]; rfl
theorem d_G_lookAtArithmetic_13 : decode c_G_lookAtArithmetic 13 = .ok (.iload_n 3, 1) := by decide +kernel
theorem e_G_lookAtArithmetic_13 {a0 a1 a2 a4 : Option Value} : q_G_lookAtArithmetic S (f + 1) 13 [a0, a1, a2, some (.int x), a4] st h = (q_G_lookAtArithmetic S f 14 [a0, a1, a2, some (.int x), a4] (.int x :: st) h) := by rw [q_G_lookAtArithmetic, hz_w_at d_G_lookAtArithmetic_13]; rfl
theorem d_G_lookAtArithmetic_14 : decode c_G_lookAtArithmetic 14 = .ok (.invokevirtual 70, 3) := by decide +kernel
theorem e_G_lookAtArithmetic_14 : q_G_lookAtArithmetic S (f + 1) 14 L st h = (S 14 L st h) := by rw [q_G_lookAtArithmetic, hz_w_at d_G_lookAtArithmetic_14]; rfl
theorem d_G_lookAtArithmetic_17 : decode c_G_lookAtArithmetic 17 = .ok (.istore 4, 2) := by decide +kernel
theorem e_G_lookAtArithmetic_17 {a0 a1 a2 a3 a4 : Option Value} : q_G_lookAtArithmetic S (f + 1) 17 [a0, a1, a2, a3, a4] (.int x :: st) h = (q_G_lookAtArithmetic S f 19 [a0, a1, a2, a3, some (.int x)] st h) := by rw [q_G_lookAtArithmetic, hz_w_at d_G_lookAtArithmetic_17]; rfl
theorem d_G_lookAtArithmetic_19 : decode c_G_lookAtArithmetic 19 = .ok (.aload_n 0, 1) := by decide +kernel
theorem e_G_lookAtArithmetic_19 {a1 a2 a3 a4 : Option Value} : q_G_lookAtArithmetic S (f + 1) 19 [some (.ref i), a1, a2, a3, a4] st h = (q_G_lookAtArithmetic S f 20 [some (.ref i), a1, a2, a3, a4] (.ref i :: st) h) := by rw [q_G_lookAtArithmetic, hz_w_at d_G_lookAtArithmetic_19]; rfl
theorem e_G_lookAtArithmetic_19n {a1 a2 a3 a4 : Option Value} : q_G_lookAtArithmetic S (f + 1) 19 [some .null, a1, a2, a3, a4] st h = (q_G_lookAtArithmetic S f 20 [some .null, a1, a2, a3, a4] (.null :: st) h) := by rw [q_G_lookAtArithmetic, hz_w_at d_G_lookAtArithmetic_19]; rfl
theorem d_G_lookAtArithmetic_20 : decode c_G_lookAtArithmetic 20 = .ok (.iload 4, 2) := by decide +kernel
theorem e_G_lookAtArithmetic_20 {a0 a1 a2 a3 : Option Value} : q_G_lookAtArithmetic S (f + 1) 20 [a0, a1, a2, a3, some (.int x)] st h = (q_G_lookAtArithmetic S f 22 [a0, a1, a2, a3, some (.int x)] (.int x :: st) h) := by rw [q_G_lookAtArithmetic, hz_w_at d_G_lookAtArithmetic_20]; rfl
theorem d_G_lookAtArithmetic_22 : decode c_G_lookAtArithmetic 22 = .ok (.invokevirtual 129, 3) := by decide +kernel
theorem e_G_lookAtArithmetic_22 : q_G_lookAtArithmetic S (f + 1) 22 L st h = (S 22 L st h) := by rw [q_G_lookAtArithmetic, hz_w_at d_G_lookAtArithmetic_22]; rfl
theorem d_G_lookAtArithmetic_25 : decode c_G_lookAtArithmetic 25 = .ok (.ifCond .eq 26, 3) := by decide +kernel
theorem e_G_lookAtArithmetic_25 : q_G_lookAtArithmetic S (f + 1) 25 L (.int x :: st) h = ((x.toInt = 0 → q_G_lookAtArithmetic S f 51 L st h) ∧ (¬ (x.toInt = 0) → q_G_lookAtArithmetic S f 28 L st h)) := by rw [q_G_lookAtArithmetic, hz_w_at d_G_lookAtArithmetic_25]; rfl
theorem d_G_lookAtArithmetic_28 : decode c_G_lookAtArithmetic 28 = .ok (.aload_n 0, 1) := by decide +kernel
theorem e_G_lookAtArithmetic_28 {a1 a2 a3 a4 : Option Value} : q_G_lookAtArithmetic S (f + 1) 28 [some (.ref i), a1, a2, a3, a4] st h = (q_G_lookAtArithmetic S f 29 [some (.ref i), a1, a2, a3, a4] (.ref i :: st) h) := by rw [q_G_lookAtArithmetic, hz_w_at d_G_lookAtArithmetic_28]; rfl
theorem e_G_lookAtArithmetic_28n {a1 a2 a3 a4 : Option Value} : q_G_lookAtArithmetic S (f + 1) 28 [some .null, a1, a2, a3, a4] st h = (q_G_lookAtArithmetic S f 29 [some .null, a1, a2, a3, a4] (.null :: st) h) := by rw [q_G_lookAtArithmetic, hz_w_at d_G_lookAtArithmetic_28]; rfl
theorem d_G_lookAtArithmetic_29 : decode c_G_lookAtArithmetic 29 = .ok (.iload_n 1, 1) := by decide +kernel
theorem e_G_lookAtArithmetic_29 {a0 a2 a3 a4 : Option Value} : q_G_lookAtArithmetic S (f + 1) 29 [a0, some (.int x), a2, a3, a4] st h = (q_G_lookAtArithmetic S f 30 [a0, some (.int x), a2, a3, a4] (.int x :: st) h) := by rw [q_G_lookAtArithmetic, hz_w_at d_G_lookAtArithmetic_29]; rfl
theorem d_G_lookAtArithmetic_30 : decode c_G_lookAtArithmetic 30 = .ok (.iconst 2, 1) := by decide +kernel
theorem e_G_lookAtArithmetic_30 : q_G_lookAtArithmetic S (f + 1) 30 L st h = (q_G_lookAtArithmetic S f 31 L (.int (hz_n 2) :: st) h) := by rw [q_G_lookAtArithmetic, hz_w_at d_G_lookAtArithmetic_30]; rfl
theorem d_G_lookAtArithmetic_31 : decode c_G_lookAtArithmetic 31 = .ok (.iload_n 2, 1) := by decide +kernel
theorem e_G_lookAtArithmetic_31 {a0 a1 a3 a4 : Option Value} : q_G_lookAtArithmetic S (f + 1) 31 [a0, a1, some (.int x), a3, a4] st h = (q_G_lookAtArithmetic S f 32 [a0, a1, some (.int x), a3, a4] (.int x :: st) h) := by rw [q_G_lookAtArithmetic, hz_w_at d_G_lookAtArithmetic_31]; rfl
theorem d_G_lookAtArithmetic_32 : decode c_G_lookAtArithmetic 32 = .ok (.aload_n 0, 1) := by decide +kernel
theorem e_G_lookAtArithmetic_32 {a1 a2 a3 a4 : Option Value} : q_G_lookAtArithmetic S (f + 1) 32 [some (.ref i), a1, a2, a3, a4] st h = (q_G_lookAtArithmetic S f 33 [some (.ref i), a1, a2, a3, a4] (.ref i :: st) h) := by rw [q_G_lookAtArithmetic, hz_w_at d_G_lookAtArithmetic_32]; rfl
theorem e_G_lookAtArithmetic_32n {a1 a2 a3 a4 : Option Value} : q_G_lookAtArithmetic S (f + 1) 32 [some .null, a1, a2, a3, a4] st h = (q_G_lookAtArithmetic S f 33 [some .null, a1, a2, a3, a4] (.null :: st) h) := by rw [q_G_lookAtArithmetic, hz_w_at d_G_lookAtArithmetic_32]; rfl
theorem d_G_lookAtArithmetic_33 : decode c_G_lookAtArithmetic 33 = .ok (.getfield 27, 3) := by decide +kernel
theorem e_G_lookAtArithmetic_33 : q_G_lookAtArithmetic S (f + 1) 33 L (.ref i :: st) h = (hz_rd h i 1 4 fun v => q_G_lookAtArithmetic S f 36 L (v :: st) h) := by rw [q_G_lookAtArithmetic, hz_w_at d_G_lookAtArithmetic_33]; rfl
theorem d_G_lookAtArithmetic_36 : decode c_G_lookAtArithmetic 36 = .ok (.iload_n 3, 1) := by decide +kernel
theorem e_G_lookAtArithmetic_36 {a0 a1 a2 a4 : Option Value} : q_G_lookAtArithmetic S (f + 1) 36 [a0, a1, a2, some (.int x), a4] st h = (q_G_lookAtArithmetic S f 37 [a0, a1, a2, some (.int x), a4] (.int x :: st) h) := by rw [q_G_lookAtArithmetic, hz_w_at d_G_lookAtArithmetic_36]; rfl
theorem d_G_lookAtArithmetic_37 : decode c_G_lookAtArithmetic 37 = .ok (.iaload, 1) := by decide +kernel
theorem e_G_lookAtArithmetic_37 : q_G_lookAtArithmetic S (f + 1) 37 L (.int x :: .ref i :: st) h = (hz_ea zKT hz_kI h i x fun v => q_G_lookAtArithmetic S f 38 L (v :: st) h) := by rw [q_G_lookAtArithmetic, hz_w_at d_G_lookAtArithmetic_37]; rfl
theorem d_G_lookAtArithmetic_38 : decode c_G_lookAtArithmetic 38 = .ok (.aload_n 0, 1) := by decide +kernel
theorem e_G_lookAtArithmetic_38 {a1 a2 a3 a4 : Option Value} : q_G_lookAtArithmetic S (f + 1) 38 [some (.ref i), a1, a2, a3, a4] st h = (q_G_lookAtArithmetic S f 39 [some (.ref i), a1, a2, a3, a4] (.ref i :: st) h) := by rw [q_G_lookAtArithmetic, hz_w_at d_G_lookAtArithmetic_38]; rfl
theorem e_G_lookAtArithmetic_38n {a1 a2 a3 a4 : Option Value} : q_G_lookAtArithmetic S (f + 1) 38 [some .null, a1, a2, a3, a4] st h = (q_G_lookAtArithmetic S f 39 [some .null, a1, a2, a3, a4] (.null :: st) h) := by rw [q_G_lookAtArithmetic, hz_w_at d_G_lookAtArithmetic_38]; rfl
theorem d_G_lookAtArithmetic_39 : decode c_G_lookAtArithmetic 39 = .ok (.getfield 27, 3) := by decide +kernel
theorem e_G_lookAtArithmetic_39 : q_G_lookAtArithmetic S (f + 1) 39 L (.ref i :: st) h = (hz_rd h i 1 4 fun v => q_G_lookAtArithmetic S f 42 L (v :: st) h) := by rw [q_G_lookAtArithmetic, hz_w_at d_G_lookAtArithmetic_39]; rfl
theorem d_G_lookAtArithmetic_42 : decode c_G_lookAtArithmetic 42 = .ok (.iload 4, 2) := by decide +kernel
theorem e_G_lookAtArithmetic_42 {a0 a1 a2 a3 : Option Value} : q_G_lookAtArithmetic S (f + 1) 42 [a0, a1, a2, a3, some (.int x)] st h = (q_G_lookAtArithmetic S f 44 [a0, a1, a2, a3, some (.int x)] (.int x :: st) h) := by rw [q_G_lookAtArithmetic, hz_w_at d_G_lookAtArithmetic_42]; rfl
theorem d_G_lookAtArithmetic_44 : decode c_G_lookAtArithmetic 44 = .ok (.iaload, 1) := by decide +kernel
theorem e_G_lookAtArithmetic_44 : q_G_lookAtArithmetic S (f + 1) 44 L (.int x :: .ref i :: st) h = (hz_ea zKT hz_kI h i x fun v => q_G_lookAtArithmetic S f 45 L (v :: st) h) := by rw [q_G_lookAtArithmetic, hz_w_at d_G_lookAtArithmetic_44]; rfl
theorem d_G_lookAtArithmetic_45 : decode c_G_lookAtArithmetic 45 = .ok (.invokestatic 138, 3) := by decide +kernel
theorem e_G_lookAtArithmetic_45 : q_G_lookAtArithmetic S (f + 1) 45 L st h = (S 45 L st h) := by rw [q_G_lookAtArithmetic, hz_w_at d_G_lookAtArithmetic_45]; rfl
theorem d_G_lookAtArithmetic_48 : decode c_G_lookAtArithmetic 48 = .ok (.invokevirtual 74, 3) := by decide +kernel
theorem e_G_lookAtArithmetic_48 : q_G_lookAtArithmetic S (f + 1) 48 L st h = (S 48 L st h) := by rw [q_G_lookAtArithmetic, hz_w_at d_G_lookAtArithmetic_48]; rfl
theorem d_G_lookAtArithmetic_51 : decode c_G_lookAtArithmetic 51 = .ok (.return_, 1) := by decide +kernel
theorem e_G_lookAtArithmetic_51 : q_G_lookAtArithmetic S (f + 1) 51 L st h = (S 51 L st h) := by rw [q_G_lookAtArithmetic, hz_w_at d_G_lookAtArithmetic_51]; rfl
end
abbrev q_G_requestNumber (S : Nat → List (Option Value) → List Value → hz_H → Prop) := hz_w zCl zKT f_G n_G c_G_requestNumber [] S
section
variable {S : Nat → List (Option Value) → List Value → hz_H → Prop} {f : Nat} {L : List (Option Value)} {st : List Value} {h : hz_H} {x y : Int32} {i j : Nat} {X Y : Int64}
theorem d_G_requestNumber_0 : decode c_G_requestNumber 0 = .ok (.aload_n 0, 1) := by decide +kernel
theorem e_G_requestNumber_0 {a1 : Option Value} : q_G_requestNumber S (f + 1) 0 [some (.ref i), a1] st h = (q_G_requestNumber S f 1 [some (.ref i), a1] (.ref i :: st) h) := by rw [q_G_requestNumber, hz_w_at d_G_requestNumber_0]; rfl
theorem e_G_requestNumber_0n {a1 : Option Value} : q_G_requestNumber S (f + 1) 0 [some .null, a1] st h = (q_G_requestNumber S f 1 [some .null, a1] (.null :: st) h) := by rw [q_G_requestNumber, hz_w_at d_G_requestNumber_0]; rfl
theorem d_G_requestNumber_1 : decode c_G_requestNumber 1 = .ok (.iload_n 1, 1) := by decide +kernel
theorem e_G_requestNumber_1 {a0 : Option Value} : q_G_requestNumber S (f + 1) 1 [a0, some (.int x)] st h = (q_G_requestNumber S f 2 [a0, some (.int x)] (.int x :: st) h) := by rw [q_G_requestNumber, hz_w_at d_G_requestNumber_1]; rfl
theorem d_G_requestNumber_2 : decode c_G_requestNumber 2 = .ok (.invokevirtual 61, 3) := by decide +kernel
theorem e_G_requestNumber_2 : q_G_requestNumber S (f + 1) 2 L st h = (S 2 L st h) := by rw [q_G_requestNumber, hz_w_at d_G_requestNumber_2]; rfl
theorem d_G_requestNumber_5 : decode c_G_requestNumber 5 = .ok (.ifCond .ne 5, 3) := by decide +kernel
theorem e_G_requestNumber_5 : q_G_requestNumber S (f + 1) 5 L (.int x :: st) h = ((¬ x.toInt = 0 → q_G_requestNumber S f 10 L st h) ∧ (¬ (¬ x.toInt = 0) → q_G_requestNumber S f 8 L st h)) := by rw [q_G_requestNumber, hz_w_at d_G_requestNumber_5]; rfl
theorem d_G_requestNumber_8 : decode c_G_requestNumber 8 = .ok (.iconst 0, 1) := by decide +kernel
theorem e_G_requestNumber_8 : q_G_requestNumber S (f + 1) 8 L st h = (q_G_requestNumber S f 9 L (.int (hz_n 0) :: st) h) := by rw [q_G_requestNumber, hz_w_at d_G_requestNumber_8]; rfl
theorem d_G_requestNumber_9 : decode c_G_requestNumber 9 = .ok (.ireturn, 1) := by decide +kernel
theorem e_G_requestNumber_9 : q_G_requestNumber S (f + 1) 9 L st h = (S 9 L st h) := by rw [q_G_requestNumber, hz_w_at d_G_requestNumber_9]; rfl
theorem d_G_requestNumber_10 : decode c_G_requestNumber 10 = .ok (.aload_n 0, 1) := by decide +kernel
theorem e_G_requestNumber_10 {a1 : Option Value} : q_G_requestNumber S (f + 1) 10 [some (.ref i), a1] st h = (q_G_requestNumber S f 11 [some (.ref i), a1] (.ref i :: st) h) := by rw [q_G_requestNumber, hz_w_at d_G_requestNumber_10]; rfl
theorem e_G_requestNumber_10n {a1 : Option Value} : q_G_requestNumber S (f + 1) 10 [some .null, a1] st h = (q_G_requestNumber S f 11 [some .null, a1] (.null :: st) h) := by rw [q_G_requestNumber, hz_w_at d_G_requestNumber_10]; rfl
theorem d_G_requestNumber_11 : decode c_G_requestNumber 11 = .ok (.getfield 24, 3) := by decide +kernel
theorem e_G_requestNumber_11 : q_G_requestNumber S (f + 1) 11 L (.ref i :: st) h = (hz_rd h i 1 3 fun v => q_G_requestNumber S f 14 L (v :: st) h) := by rw [q_G_requestNumber, hz_w_at d_G_requestNumber_11]; rfl
theorem d_G_requestNumber_14 : decode c_G_requestNumber 14 = .ok (.iload_n 1, 1) := by decide +kernel
theorem e_G_requestNumber_14 {a0 : Option Value} : q_G_requestNumber S (f + 1) 14 [a0, some (.int x)] st h = (q_G_requestNumber S f 15 [a0, some (.int x)] (.int x :: st) h) := by rw [q_G_requestNumber, hz_w_at d_G_requestNumber_14]; rfl
theorem d_G_requestNumber_15 : decode c_G_requestNumber 15 = .ok (.iaload, 1) := by decide +kernel
theorem e_G_requestNumber_15 : q_G_requestNumber S (f + 1) 15 L (.int x :: .ref i :: st) h = (hz_ea zKT hz_kI h i x fun v => q_G_requestNumber S f 16 L (v :: st) h) := by rw [q_G_requestNumber, hz_w_at d_G_requestNumber_15]; rfl
theorem d_G_requestNumber_16 : decode c_G_requestNumber 16 = .ok (.iconst 2, 1) := by decide +kernel
theorem e_G_requestNumber_16 : q_G_requestNumber S (f + 1) 16 L st h = (q_G_requestNumber S f 17 L (.int (hz_n 2) :: st) h) := by rw [q_G_requestNumber, hz_w_at d_G_requestNumber_16]; rfl
theorem d_G_requestNumber_17 : decode c_G_requestNumber 17 = .ok (.if_icmp .eq 11, 3) := by decide +kernel
theorem e_G_requestNumber_17 : q_G_requestNumber S (f + 1) 17 L (.int y :: .int x :: st) h = ((x.toInt = y.toInt → q_G_requestNumber S f 28 L st h) ∧ (¬ (x.toInt = y.toInt) → q_G_requestNumber S f 20 L st h)) := by rw [q_G_requestNumber, hz_w_at d_G_requestNumber_17]; rfl
theorem d_G_requestNumber_20 : decode c_G_requestNumber 20 = .ok (.aload_n 0, 1) := by decide +kernel
theorem e_G_requestNumber_20 {a1 : Option Value} : q_G_requestNumber S (f + 1) 20 [some (.ref i), a1] st h = (q_G_requestNumber S f 21 [some (.ref i), a1] (.ref i :: st) h) := by rw [q_G_requestNumber, hz_w_at d_G_requestNumber_20]; rfl
theorem e_G_requestNumber_20n {a1 : Option Value} : q_G_requestNumber S (f + 1) 20 [some .null, a1] st h = (q_G_requestNumber S f 21 [some .null, a1] (.null :: st) h) := by rw [q_G_requestNumber, hz_w_at d_G_requestNumber_20]; rfl
theorem d_G_requestNumber_21 : decode c_G_requestNumber 21 = .ok (.bipush (-3), 2) := by decide +kernel
theorem e_G_requestNumber_21 : q_G_requestNumber S (f + 1) 21 L st h = (q_G_requestNumber S f 23 L (.int (hz_n (-3)) :: st) h) := by rw [q_G_requestNumber, hz_w_at d_G_requestNumber_21]; rfl
theorem d_G_requestNumber_23 : decode c_G_requestNumber 23 = .ok (.putfield 55, 3) := by decide +kernel
theorem e_G_requestNumber_23 : q_G_requestNumber S (f + 1) 23 L (.int x :: .ref i :: st) h = (hz_wr h i 1 13 (.int x) fun h => q_G_requestNumber S f 26 L st h) := by rw [q_G_requestNumber, hz_w_at d_G_requestNumber_23]; rfl
theorem d_G_requestNumber_26 : decode c_G_requestNumber 26 = .ok (.iconst 0, 1) := by decide +kernel
theorem e_G_requestNumber_26 : q_G_requestNumber S (f + 1) 26 L st h = (q_G_requestNumber S f 27 L (.int (hz_n 0) :: st) h) := by rw [q_G_requestNumber, hz_w_at d_G_requestNumber_26]; rfl
theorem d_G_requestNumber_27 : decode c_G_requestNumber 27 = .ok (.ireturn, 1) := by decide +kernel
theorem e_G_requestNumber_27 : q_G_requestNumber S (f + 1) 27 L st h = (S 27 L st h) := by rw [q_G_requestNumber, hz_w_at d_G_requestNumber_27]; rfl
theorem d_G_requestNumber_28 : decode c_G_requestNumber 28 = .ok (.iconst 1, 1) := by decide +kernel
theorem e_G_requestNumber_28 : q_G_requestNumber S (f + 1) 28 L st h = (q_G_requestNumber S f 29 L (.int (hz_n 1) :: st) h) := by rw [q_G_requestNumber, hz_w_at d_G_requestNumber_28]; rfl
theorem d_G_requestNumber_29 : decode c_G_requestNumber 29 = .ok (.ireturn, 1) := by decide +kernel
theorem e_G_requestNumber_29 : q_G_requestNumber S (f + 1) 29 L st h = (S 29 L st h) := by rw [q_G_requestNumber, hz_w_at d_G_requestNumber_29]; rfl
end
abbrev q_G_calculate (S : Nat → List (Option Value) → List Value → hz_H → Prop) := hz_w zCl zKT f_G n_G c_G_calculate [] S
section
variable {S : Nat → List (Option Value) → List Value → hz_H → Prop} {f : Nat} {L : List (Option Value)} {st : List Value} {h : hz_H} {x y : Int32} {i j : Nat} {X Y : Int64}
theorem d_G_calculate_0 : decode c_G_calculate 0 = .ok (.iload_n 0, 1) := by decide +kernel
theorem e_G_calculate_0 {a1 a2 : Option Value} : q_G_calculate S (f + 1) 0 [some (.int x), a1, a2] st h = (q_G_calculate S f 1 [some (.int x), a1, a2] (.int x :: st) h) := by rw [q_G_calculate, hz_w_at d_G_calculate_0]; rfl
theorem d_G_calculate_1 : decode c_G_calculate 1 = .ok (.lookupswitch 66 #[(42, 51), (43, 43), (45, 47), (60, 55)], 43) := by decide +kernel
theorem e_G_calculate_1 : q_G_calculate S (f + 1) 1 L (.int x :: st) h = ((x.toInt = 42 → q_G_calculate S f 52 L st h) ∧ (¬ x.toInt = 42 → (x.toInt = 43 → q_G_calculate S f 44 L st h) ∧ (¬ x.toInt = 43 → (x.toInt = 45 → q_G_calculate S f 48 L st h) ∧ (¬ x.toInt = 45 → (x.toInt = 60 → q_G_calculate S f 56 L st h) ∧ (¬ x.toInt = 60 → q_G_calculate S f 67 L st h))))) := by rw [q_G_calculate, hz_w_at d_G_calculate_1]; rfl
theorem d_G_calculate_44 : decode c_G_calculate 44 = .ok (.iload_n 1, 1) := by decide +kernel
theorem e_G_calculate_44 {a0 a2 : Option Value} : q_G_calculate S (f + 1) 44 [a0, some (.int x), a2] st h = (q_G_calculate S f 45 [a0, some (.int x), a2] (.int x :: st) h) := by rw [q_G_calculate, hz_w_at d_G_calculate_44]; rfl
theorem d_G_calculate_45 : decode c_G_calculate 45 = .ok (.iload_n 2, 1) := by decide +kernel
theorem e_G_calculate_45 {a0 a1 : Option Value} : q_G_calculate S (f + 1) 45 [a0, a1, some (.int x)] st h = (q_G_calculate S f 46 [a0, a1, some (.int x)] (.int x :: st) h) := by rw [q_G_calculate, hz_w_at d_G_calculate_45]; rfl
theorem d_G_calculate_46 : decode c_G_calculate 46 = .ok (.iadd, 1) := by decide +kernel
theorem e_G_calculate_46 : q_G_calculate S (f + 1) 46 L (.int y :: .int x :: st) h = (q_G_calculate S f 47 L (.int (x + y) :: st) h) := by rw [q_G_calculate, hz_w_at d_G_calculate_46]; rfl
theorem d_G_calculate_47 : decode c_G_calculate 47 = .ok (.ireturn, 1) := by decide +kernel
theorem e_G_calculate_47 : q_G_calculate S (f + 1) 47 L st h = (S 47 L st h) := by rw [q_G_calculate, hz_w_at d_G_calculate_47]; rfl
theorem d_G_calculate_48 : decode c_G_calculate 48 = .ok (.iload_n 1, 1) := by decide +kernel
theorem e_G_calculate_48 {a0 a2 : Option Value} : q_G_calculate S (f + 1) 48 [a0, some (.int x), a2] st h = (q_G_calculate S f 49 [a0, some (.int x), a2] (.int x :: st) h) := by rw [q_G_calculate, hz_w_at d_G_calculate_48]; rfl
theorem d_G_calculate_49 : decode c_G_calculate 49 = .ok (.iload_n 2, 1) := by decide +kernel
theorem e_G_calculate_49 {a0 a1 : Option Value} : q_G_calculate S (f + 1) 49 [a0, a1, some (.int x)] st h = (q_G_calculate S f 50 [a0, a1, some (.int x)] (.int x :: st) h) := by rw [q_G_calculate, hz_w_at d_G_calculate_49]; rfl
theorem d_G_calculate_50 : decode c_G_calculate 50 = .ok (.isub, 1) := by decide +kernel
theorem e_G_calculate_50 : q_G_calculate S (f + 1) 50 L (.int y :: .int x :: st) h = (q_G_calculate S f 51 L (.int (x - y) :: st) h) := by rw [q_G_calculate, hz_w_at d_G_calculate_50]; rfl
theorem d_G_calculate_51 : decode c_G_calculate 51 = .ok (.ireturn, 1) := by decide +kernel
theorem e_G_calculate_51 : q_G_calculate S (f + 1) 51 L st h = (S 51 L st h) := by rw [q_G_calculate, hz_w_at d_G_calculate_51]; rfl
theorem d_G_calculate_52 : decode c_G_calculate 52 = .ok (.iload_n 1, 1) := by decide +kernel
theorem e_G_calculate_52 {a0 a2 : Option Value} : q_G_calculate S (f + 1) 52 [a0, some (.int x), a2] st h = (q_G_calculate S f 53 [a0, some (.int x), a2] (.int x :: st) h) := by rw [q_G_calculate, hz_w_at d_G_calculate_52]; rfl
theorem d_G_calculate_53 : decode c_G_calculate 53 = .ok (.iload_n 2, 1) := by decide +kernel
theorem e_G_calculate_53 {a0 a1 : Option Value} : q_G_calculate S (f + 1) 53 [a0, a1, some (.int x)] st h = (q_G_calculate S f 54 [a0, a1, some (.int x)] (.int x :: st) h) := by rw [q_G_calculate, hz_w_at d_G_calculate_53]; rfl
theorem d_G_calculate_54 : decode c_G_calculate 54 = .ok (.imul, 1) := by decide +kernel
theorem e_G_calculate_54 : q_G_calculate S (f + 1) 54 L (.int y :: .int x :: st) h = (q_G_calculate S f 55 L (.int (x * y) :: st) h) := by rw [q_G_calculate, hz_w_at d_G_calculate_54]; rfl
theorem d_G_calculate_55 : decode c_G_calculate 55 = .ok (.ireturn, 1) := by decide +kernel
theorem e_G_calculate_55 : q_G_calculate S (f + 1) 55 L st h = (S 55 L st h) := by rw [q_G_calculate, hz_w_at d_G_calculate_55]; rfl
theorem d_G_calculate_56 : decode c_G_calculate 56 = .ok (.iload_n 1, 1) := by decide +kernel
theorem e_G_calculate_56 {a0 a2 : Option Value} : q_G_calculate S (f + 1) 56 [a0, some (.int x), a2] st h = (q_G_calculate S f 57 [a0, some (.int x), a2] (.int x :: st) h) := by rw [q_G_calculate, hz_w_at d_G_calculate_56]; rfl
theorem d_G_calculate_57 : decode c_G_calculate 57 = .ok (.iload_n 2, 1) := by decide +kernel
theorem e_G_calculate_57 {a0 a1 : Option Value} : q_G_calculate S (f + 1) 57 [a0, a1, some (.int x)] st h = (q_G_calculate S f 58 [a0, a1, some (.int x)] (.int x :: st) h) := by rw [q_G_calculate, hz_w_at d_G_calculate_57]; rfl
theorem d_G_calculate_58 : decode c_G_calculate 58 = .ok (.if_icmp .ge 7, 3) := by decide +kernel
theorem e_G_calculate_58 : q_G_calculate S (f + 1) 58 L (.int y :: .int x :: st) h = ((y.toInt ≤ x.toInt → q_G_calculate S f 65 L st h) ∧ (¬ (y.toInt ≤ x.toInt) → q_G_calculate S f 61 L st h)) := by rw [q_G_calculate, hz_w_at d_G_calculate_58]; rfl
theorem d_G_calculate_61 : decode c_G_calculate 61 = .ok (.iconst 1, 1) := by decide +kernel
theorem e_G_calculate_61 : q_G_calculate S (f + 1) 61 L st h = (q_G_calculate S f 62 L (.int (hz_n 1) :: st) h) := by rw [q_G_calculate, hz_w_at d_G_calculate_61]; rfl
theorem d_G_calculate_62 : decode c_G_calculate 62 = .ok (.goto 4, 3) := by decide +kernel
theorem e_G_calculate_62 : q_G_calculate S (f + 1) 62 L st h = (q_G_calculate S f 66 L st h) := by rw [q_G_calculate, hz_w_at d_G_calculate_62]; rfl
theorem d_G_calculate_65 : decode c_G_calculate 65 = .ok (.iconst 0, 1) := by decide +kernel
theorem e_G_calculate_65 : q_G_calculate S (f + 1) 65 L st h = (q_G_calculate S f 66 L (.int (hz_n 0) :: st) h) := by rw [q_G_calculate, hz_w_at d_G_calculate_65]; rfl
theorem d_G_calculate_66 : decode c_G_calculate 66 = .ok (.ireturn, 1) := by decide +kernel
theorem e_G_calculate_66 : q_G_calculate S (f + 1) 66 L st h = (S 66 L st h) := by rw [q_G_calculate, hz_w_at d_G_calculate_66]; rfl
theorem d_G_calculate_67 : decode c_G_calculate 67 = .ok (.iload_n 1, 1) := by decide +kernel
theorem e_G_calculate_67 {a0 a2 : Option Value} : q_G_calculate S (f + 1) 67 [a0, some (.int x), a2] st h = (q_G_calculate S f 68 [a0, some (.int x), a2] (.int x :: st) h) := by rw [q_G_calculate, hz_w_at d_G_calculate_67]; rfl
theorem d_G_calculate_68 : decode c_G_calculate 68 = .ok (.iload_n 2, 1) := by decide +kernel
theorem e_G_calculate_68 {a0 a1 : Option Value} : q_G_calculate S (f + 1) 68 [a0, a1, some (.int x)] st h = (q_G_calculate S f 69 [a0, a1, some (.int x)] (.int x :: st) h) := by rw [q_G_calculate, hz_w_at d_G_calculate_68]; rfl
theorem d_G_calculate_69 : decode c_G_calculate 69 = .ok (.if_icmp .ne 7, 3) := by decide +kernel
theorem e_G_calculate_69 : q_G_calculate S (f + 1) 69 L (.int y :: .int x :: st) h = ((¬ x.toInt = y.toInt → q_G_calculate S f 76 L st h) ∧ (¬ (¬ x.toInt = y.toInt) → q_G_calculate S f 72 L st h)) := by rw [q_G_calculate, hz_w_at d_G_calculate_69]; rfl
theorem d_G_calculate_72 : decode c_G_calculate 72 = .ok (.iconst 1, 1) := by decide +kernel
theorem e_G_calculate_72 : q_G_calculate S (f + 1) 72 L st h = (q_G_calculate S f 73 L (.int (hz_n 1) :: st) h) := by rw [q_G_calculate, hz_w_at d_G_calculate_72]; rfl
theorem d_G_calculate_73 : decode c_G_calculate 73 = .ok (.goto 4, 3) := by decide +kernel
theorem e_G_calculate_73 : q_G_calculate S (f + 1) 73 L st h = (q_G_calculate S f 77 L st h) := by rw [q_G_calculate, hz_w_at d_G_calculate_73]; rfl
theorem d_G_calculate_76 : decode c_G_calculate 76 = .ok (.iconst 0, 1) := by decide +kernel
theorem e_G_calculate_76 : q_G_calculate S (f + 1) 76 L st h = (q_G_calculate S f 77 L (.int (hz_n 0) :: st) h) := by rw [q_G_calculate, hz_w_at d_G_calculate_76]; rfl
theorem d_G_calculate_77 : decode c_G_calculate 77 = .ok (.ireturn, 1) := by decide +kernel
theorem e_G_calculate_77 : q_G_calculate S (f + 1) 77 L st h = (S 77 L st h) := by rw [q_G_calculate, hz_w_at d_G_calculate_77]; rfl
end
abbrev q_G_nextPart (S : Nat → List (Option Value) → List Value → hz_H → Prop) := hz_w zCl zKT f_G n_G c_G_nextPart [] S
section
variable {S : Nat → List (Option Value) → List Value → hz_H → Prop} {f : Nat} {L : List (Option Value)} {st : List Value} {h : hz_H} {x y : Int32} {i j : Nat} {X Y : Int64}
theorem d_G_nextPart_0 : decode c_G_nextPart 0 = .ok (.iload_n 1, 1) := by decide +kernel
theorem e_G_nextPart_0 {a0 a2 a3 : Option Value} : q_G_nextPart S (f + 1) 0 [a0, some (.int x), a2, a3] st h = (q_G_nextPart S f 1 [a0, some (.int x), a2, a3] (.int x :: st) h) := by rw [q_G_nextPart, hz_w_at d_G_nextPart_0]; rfl
theorem d_G_nextPart_1 : decode c_G_nextPart 1 = .ok (.bipush 40, 2) := by decide +kernel
theorem e_G_nextPart_1 : q_G_nextPart S (f + 1) 1 L st h = (q_G_nextPart S f 3 L (.int (hz_n 40) :: st) h) := by rw [q_G_nextPart, hz_w_at d_G_nextPart_1]; rfl
theorem d_G_nextPart_3 : decode c_G_nextPart 3 = .ok (.irem, 1) := by decide +kernel
theorem e_G_nextPart_3 : q_G_nextPart S (f + 1) 3 L (.int y :: .int x :: st) h = (¬ y.toInt = 0 ∧ q_G_nextPart S f 4 L (.int (x - x / y * y) :: st) h) := by rw [q_G_nextPart, hz_w_at d_G_nextPart_3]; rfl
theorem d_G_nextPart_4 : decode c_G_nextPart 4 = .ok (.istore_n 2, 1) := by decide +kernel
theorem e_G_nextPart_4 {a0 a1 a2 a3 : Option Value} : q_G_nextPart S (f + 1) 4 [a0, a1, a2, a3] (.int x :: st) h = (q_G_nextPart S f 5 [a0, a1, some (.int x), a3] st h) := by rw [q_G_nextPart, hz_w_at d_G_nextPart_4]; rfl
theorem d_G_nextPart_5 : decode c_G_nextPart 5 = .ok (.aload_n 0, 1) := by decide +kernel
theorem e_G_nextPart_5 {a1 a2 a3 : Option Value} : q_G_nextPart S (f + 1) 5 [some (.ref i), a1, a2, a3] st h = (q_G_nextPart S f 6 [some (.ref i), a1, a2, a3] (.ref i :: st) h) := by rw [q_G_nextPart, hz_w_at d_G_nextPart_5]; rfl
theorem e_G_nextPart_5n {a1 a2 a3 : Option Value} : q_G_nextPart S (f + 1) 5 [some .null, a1, a2, a3] st h = (q_G_nextPart S f 6 [some .null, a1, a2, a3] (.null :: st) h) := by rw [q_G_nextPart, hz_w_at d_G_nextPart_5]; rfl
theorem d_G_nextPart_6 : decode c_G_nextPart 6 = .ok (.getfield 17, 3) := by decide +kernel
theorem e_G_nextPart_6 : q_G_nextPart S (f + 1) 6 L (.ref i :: st) h = (hz_rd h i 1 1 fun v => q_G_nextPart S f 9 L (v :: st) h) := by rw [q_G_nextPart, hz_w_at d_G_nextPart_6]; rfl
theorem d_G_nextPart_9 : decode c_G_nextPart 9 = .ok (.iload_n 1, 1) := by decide +kernel
theorem e_G_nextPart_9 {a0 a2 a3 : Option Value} : q_G_nextPart S (f + 1) 9 [a0, some (.int x), a2, a3] st h = (q_G_nextPart S f 10 [a0, some (.int x), a2, a3] (.int x :: st) h) := by rw [q_G_nextPart, hz_w_at d_G_nextPart_9]; rfl
theorem d_G_nextPart_10 : decode c_G_nextPart 10 = .ok (.bipush 40, 2) := by decide +kernel
theorem e_G_nextPart_10 : q_G_nextPart S (f + 1) 10 L st h = (q_G_nextPart S f 12 L (.int (hz_n 40) :: st) h) := by rw [q_G_nextPart, hz_w_at d_G_nextPart_10]; rfl
theorem d_G_nextPart_12 : decode c_G_nextPart 12 = .ok (.idiv, 1) := by decide +kernel
theorem e_G_nextPart_12 : q_G_nextPart S (f + 1) 12 L (.int y :: .int x :: st) h = (¬ y.toInt = 0 ∧ q_G_nextPart S f 13 L (.int (x / y) :: st) h) := by rw [q_G_nextPart, hz_w_at d_G_nextPart_12]; rfl
theorem d_G_nextPart_13 : decode c_G_nextPart 13 = .ok (.aaload, 1) := by decide +kernel
theorem e_G_nextPart_13 : q_G_nextPart S (f + 1) 13 L (.int x :: .ref i :: st) h = (hz_ea zKT hz_kA h i x fun v => q_G_nextPart S f 14 L (v :: st) h) := by rw [q_G_nextPart, hz_w_at d_G_nextPart_13]; rfl
theorem d_G_nextPart_14 : decode c_G_nextPart 14 = .ok (.getfield 142, 3) := by decide +kernel
theorem e_G_nextPart_14 : q_G_nextPart S (f + 1) 14 L (.ref i :: st) h = (hz_rd h i 0 1 fun v => q_G_nextPart S f 17 L (v :: st) h) := by rw [q_G_nextPart, hz_w_at d_G_nextPart_14]; rfl
theorem d_G_nextPart_17 : decode c_G_nextPart 17 = .ok (.iload_n 2, 1) := by decide +kernel
theorem e_G_nextPart_17 {a0 a1 a3 : Option Value} : q_G_nextPart S (f + 1) 17 [a0, a1, some (.int x), a3] st h = (q_G_nextPart S f 18 [a0, a1, some (.int x), a3] (.int x :: st) h) := by rw [q_G_nextPart, hz_w_at d_G_nextPart_17]; rfl
theorem d_G_nextPart_18 : decode c_G_nextPart 18 = .ok (.iaload, 1) := by decide +kernel
theorem e_G_nextPart_18 : q_G_nextPart S (f + 1) 18 L (.int x :: .ref i :: st) h = (hz_ea zKT hz_kI h i x fun v => q_G_nextPart S f 19 L (v :: st) h) := by rw [q_G_nextPart, hz_w_at d_G_nextPart_18]; rfl
theorem d_G_nextPart_19 : decode c_G_nextPart 19 = .ok (.istore_n 3, 1) := by decide +kernel
theorem e_G_nextPart_19 {a0 a1 a2 a3 : Option Value} : q_G_nextPart S (f + 1) 19 [a0, a1, a2, a3] (.int x :: st) h = (q_G_nextPart S f 20 [a0, a1, a2, some (.int x)] st h) := by rw [q_G_nextPart, hz_w_at d_G_nextPart_19]; rfl
theorem d_G_nextPart_20 : decode c_G_nextPart 20 = .ok (.iload_n 3, 1) := by decide +kernel
theorem e_G_nextPart_20 {a0 a1 a2 : Option Value} : q_G_nextPart S (f + 1) 20 [a0, a1, a2, some (.int x)] st h = (q_G_nextPart S f 21 [a0, a1, a2, some (.int x)] (.int x :: st) h) := by rw [q_G_nextPart, hz_w_at d_G_nextPart_20]; rfl
theorem d_G_nextPart_21 : decode c_G_nextPart 21 = .ok (.ifCond .ne 7, 3) := by decide +kernel
theorem e_G_nextPart_21 : q_G_nextPart S (f + 1) 21 L (.int x :: st) h = ((¬ x.toInt = 0 → q_G_nextPart S f 28 L st h) ∧ (¬ (¬ x.toInt = 0) → q_G_nextPart S f 24 L st h)) := by rw [q_G_nextPart, hz_w_at d_G_nextPart_21]; rfl
theorem d_G_nextPart_24 : decode c_G_nextPart 24 = .ok (.iconst (-1), 1) := by decide +kernel
theorem e_G_nextPart_24 : q_G_nextPart S (f + 1) 24 L st h = (q_G_nextPart S f 25 L (.int (hz_n (-1)) :: st) h) := by rw [q_G_nextPart, hz_w_at d_G_nextPart_24]; rfl
theorem d_G_nextPart_25 : decode c_G_nextPart 25 = .ok (.goto 8, 3) := by decide +kernel
theorem e_G_nextPart_25 : q_G_nextPart S (f + 1) 25 L st h = (q_G_nextPart S f 33 L st h) := by rw [q_G_nextPart, hz_w_at d_G_nextPart_25]; rfl
theorem d_G_nextPart_28 : decode c_G_nextPart 28 = .ok (.iload_n 1, 1) := by decide +kernel
theorem e_G_nextPart_28 {a0 a2 a3 : Option Value} : q_G_nextPart S (f + 1) 28 [a0, some (.int x), a2, a3] st h = (q_G_nextPart S f 29 [a0, some (.int x), a2, a3] (.int x :: st) h) := by rw [q_G_nextPart, hz_w_at d_G_nextPart_28]; rfl
theorem d_G_nextPart_29 : decode c_G_nextPart 29 = .ok (.iload_n 2, 1) := by decide +kernel
theorem e_G_nextPart_29 {a0 a1 a3 : Option Value} : q_G_nextPart S (f + 1) 29 [a0, a1, some (.int x), a3] st h = (q_G_nextPart S f 30 [a0, a1, some (.int x), a3] (.int x :: st) h) := by rw [q_G_nextPart, hz_w_at d_G_nextPart_29]; rfl
theorem d_G_nextPart_30 : decode c_G_nextPart 30 = .ok (.isub, 1) := by decide +kernel
theorem e_G_nextPart_30 : q_G_nextPart S (f + 1) 30 L (.int y :: .int x :: st) h = (q_G_nextPart S f 31 L (.int (x - y) :: st) h) := by rw [q_G_nextPart, hz_w_at d_G_nextPart_30]; rfl
theorem d_G_nextPart_31 : decode c_G_nextPart 31 = .ok (.iload_n 3, 1) := by decide +kernel
theorem e_G_nextPart_31 {a0 a1 a2 : Option Value} : q_G_nextPart S (f + 1) 31 [a0, a1, a2, some (.int x)] st h = (q_G_nextPart S f 32 [a0, a1, a2, some (.int x)] (.int x :: st) h) := by rw [q_G_nextPart, hz_w_at d_G_nextPart_31]; rfl
theorem d_G_nextPart_32 : decode c_G_nextPart 32 = .ok (.iadd, 1) := by decide +kernel
theorem e_G_nextPart_32 : q_G_nextPart S (f + 1) 32 L (.int y :: .int x :: st) h = (q_G_nextPart S f 33 L (.int (x + y) :: st) h) := by rw [q_G_nextPart, hz_w_at d_G_nextPart_32]; rfl
theorem d_G_nextPart_33 : decode c_G_nextPart 33 = .ok (.ireturn, 1) := by decide +kernel
theorem e_G_nextPart_33 : q_G_nextPart S (f + 1) 33 L st h = (S 33 L st h) := by rw [q_G_nextPart, hz_w_at d_G_nextPart_33]; rfl
end
