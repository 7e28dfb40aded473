/-! Rows of LazyGraphsModel: instructions, and what each asks of the state behind it. Printed by wip/genparts.py. -/
abbrev q_M_init (S : Nat → List (Option Value) → List Value → hz_H → Prop) := hz_w zCl zKT f_Mi n_M c_M_init [] S
section
variable {S : Nat → List (Option Value) → List Value → hz_H → Prop} {f : Nat} {L : List (Option Value)} {st : List Value} {h : hz_H} {x y : Int32} {i j : Nat} {X Y : Int64}
theorem d_M_init_0 : decode c_M_init 0 = .ok (.aload_n 0, 1) := by decide +kernel
theorem e_M_init_0 : q_M_init S (f + 1) 0 [some (.ref i)] st h = (q_M_init S f 1 [some (.ref i)] (.ref i :: st) h) := by rw [q_M_init, hz_w_at d_M_init_0]; rfl
theorem e_M_init_0n : q_M_init S (f + 1) 0 [some .null] st h = (q_M_init S f 1 [some .null] (.null :: st) h) := by rw [q_M_init, hz_w_at d_M_init_0]; rfl
theorem d_M_init_1 : decode c_M_init 1 = .ok (.invokespecial 1, 3) := by decide +kernel
theorem e_M_init_1 : q_M_init S (f + 1) 1 L st h = (S 1 L st h) := by rw [q_M_init, hz_w_at d_M_init_1]; rfl
theorem d_M_init_4 : decode c_M_init 4 = .ok (.aload_n 0, 1) := by decide +kernel
theorem e_M_init_4 : q_M_init S (f + 1) 4 [some (.ref i)] st h = (q_M_init S f 5 [some (.ref i)] (.ref i :: st) h) := by rw [q_M_init, hz_w_at d_M_init_4]; rfl
theorem e_M_init_4n : q_M_init S (f + 1) 4 [some .null] st h = (q_M_init S f 5 [some .null] (.null :: st) h) := by rw [q_M_init, hz_w_at d_M_init_4]; rfl
theorem d_M_init_5 : decode c_M_init 5 = .ok (.bipush 40, 2) := by decide +kernel
theorem e_M_init_5 : q_M_init S (f + 1) 5 L st h = (q_M_init S f 7 L (.int (hz_n 40) :: st) h) := by rw [q_M_init, hz_w_at d_M_init_5]; rfl
theorem d_M_init_7 : decode c_M_init 7 = .ok (.newarray .int, 2) := by decide +kernel
theorem e_M_init_7 : q_M_init S (f + 1) 7 L st h = (S 7 L st h) := by rw [q_M_init, hz_w_at d_M_init_7]; rfl
theorem d_M_init_9 : decode c_M_init 9 = .ok (.putfield 7, 3) := by decide +kernel
theorem e_M_init_9 : q_M_init S (f + 1) 9 L (.ref j :: .ref i :: st) h = (hz_wr h i 5 2 (.ref j) fun h => q_M_init S f 12 L st h) := by rw [q_M_init, hz_w_at d_M_init_9]; rfl
theorem d_M_init_12 : decode c_M_init 12 = .ok (.aload_n 0, 1) := by decide +kernel
theorem e_M_init_12 : q_M_init S (f + 1) 12 [some (.ref i)] st h = (q_M_init S f 13 [some (.ref i)] (.ref i :: st) h) := by rw [q_M_init, hz_w_at d_M_init_12]; rfl
theorem e_M_init_12n : q_M_init S (f + 1) 12 [some .null] st h = (q_M_init S f 13 [some .null] (.null :: st) h) := by rw [q_M_init, hz_w_at d_M_init_12]; rfl
theorem d_M_init_13 : decode c_M_init 13 = .ok (.bipush 60, 2) := by decide +kernel
theorem e_M_init_13 : q_M_init S (f + 1) 13 L st h = (q_M_init S f 15 L (.int (hz_n 60) :: st) h) := by rw [q_M_init, hz_w_at d_M_init_13]; rfl
theorem d_M_init_15 : decode c_M_init 15 = .ok (.newarray .int, 2) := by decide +kernel
theorem e_M_init_15 : q_M_init S (f + 1) 15 L st h = (S 15 L st h) := by rw [q_M_init, hz_w_at d_M_init_15]; rfl
theorem d_M_init_17 : decode c_M_init 17 = .ok (.putfield 13, 3) := by decide +kernel
theorem e_M_init_17 : q_M_init S (f + 1) 17 L (.ref j :: .ref i :: st) h = (hz_wr h i 5 4 (.ref j) fun h => q_M_init S f 20 L st h) := by rw [q_M_init, hz_w_at d_M_init_17]; rfl
theorem d_M_init_20 : decode c_M_init 20 = .ok (.aload_n 0, 1) := by decide +kernel
theorem e_M_init_20 : q_M_init S (f + 1) 20 [some (.ref i)] st h = (q_M_init S f 21 [some (.ref i)] (.ref i :: st) h) := by rw [q_M_init, hz_w_at d_M_init_20]; rfl
theorem e_M_init_20n : q_M_init S (f + 1) 20 [some .null] st h = (q_M_init S f 21 [some .null] (.null :: st) h) := by rw [q_M_init, hz_w_at d_M_init_20]; rfl
theorem d_M_init_21 : decode c_M_init 21 = .ok (.bipush 26, 2) := by decide +kernel
theorem e_M_init_21 : q_M_init S (f + 1) 21 L st h = (q_M_init S f 23 L (.int (hz_n 26) :: st) h) := by rw [q_M_init, hz_w_at d_M_init_21]; rfl
theorem d_M_init_23 : decode c_M_init 23 = .ok (.newarray .boolean, 2) := by decide +kernel
theorem e_M_init_23 : q_M_init S (f + 1) 23 L st h = (S 23 L st h) := by rw [q_M_init, hz_w_at d_M_init_23]; rfl
theorem d_M_init_25 : decode c_M_init 25 = .ok (.putfield 16, 3) := by decide +kernel
theorem e_M_init_25 : q_M_init S (f + 1) 25 L (.ref j :: .ref i :: st) h = (hz_wr h i 5 5 (.ref j) fun h => q_M_init S f 28 L st h) := by rw [q_M_init, hz_w_at d_M_init_25]; rfl
theorem d_M_init_28 : decode c_M_init 28 = .ok (.aload_n 0, 1) := by decide +kernel
theorem e_M_init_28 : q_M_init S (f + 1) 28 [some (.ref i)] st h = (q_M_init S f 29 [some (.ref i)] (.ref i :: st) h) := by rw [q_M_init, hz_w_at d_M_init_28]; rfl
theorem e_M_init_28n : q_M_init S (f + 1) 28 [some .null] st h = (q_M_init S f 29 [some .null] (.null :: st) h) := by rw [q_M_init, hz_w_at d_M_init_28]; rfl
theorem d_M_init_29 : decode c_M_init 29 = .ok (.bipush 27, 2) := by decide +kernel
theorem e_M_init_29 : q_M_init S (f + 1) 29 L st h = (q_M_init S f 31 L (.int (hz_n 27) :: st) h) := by rw [q_M_init, hz_w_at d_M_init_29]; rfl
theorem d_M_init_31 : decode c_M_init 31 = .ok (.newarray .int, 2) := by decide +kernel
theorem e_M_init_31 : q_M_init S (f + 1) 31 L st h = (S 31 L st h) := by rw [q_M_init, hz_w_at d_M_init_31]; rfl
theorem d_M_init_33 : decode c_M_init 33 = .ok (.putfield 20, 3) := by decide +kernel
theorem e_M_init_33 : q_M_init S (f + 1) 33 L (.ref j :: .ref i :: st) h = (hz_wr h i 5 6 (.ref j) fun h => q_M_init S f 36 L st h) := by rw [q_M_init, hz_w_at d_M_init_33]; rfl
theorem d_M_init_36 : decode c_M_init 36 = .ok (.aload_n 0, 1) := by decide +kernel
theorem e_M_init_36 : q_M_init S (f + 1) 36 [some (.ref i)] st h = (q_M_init S f 37 [some (.ref i)] (.ref i :: st) h) := by rw [q_M_init, hz_w_at d_M_init_36]; rfl
theorem e_M_init_36n : q_M_init S (f + 1) 36 [some .null] st h = (q_M_init S f 37 [some .null] (.null :: st) h) := by rw [q_M_init, hz_w_at d_M_init_36]; rfl
theorem d_M_init_37 : decode c_M_init 37 = .ok (.bipush 108, 2) := by decide +kernel
theorem e_M_init_37 : q_M_init S (f + 1) 37 L st h = (q_M_init S f 39 L (.int (hz_n 108) :: st) h) := by rw [q_M_init, hz_w_at d_M_init_37]; rfl
theorem d_M_init_39 : decode c_M_init 39 = .ok (.newarray .int, 2) := by decide +kernel
theorem e_M_init_39 : q_M_init S (f + 1) 39 L st h = (S 39 L st h) := by rw [q_M_init, hz_w_at d_M_init_39]; rfl
theorem d_M_init_41 : decode c_M_init 41 = .ok (.putfield 23, 3) := by decide +kernel
theorem e_M_init_41 : q_M_init S (f + 1) 41 L (.ref j :: .ref i :: st) h = (hz_wr h i 5 7 (.ref j) fun h => q_M_init S f 44 L st h) := by rw [q_M_init, hz_w_at d_M_init_41]; rfl
theorem d_M_init_44 : decode c_M_init 44 = .ok (.aload_n 0, 1) := by decide +kernel
theorem e_M_init_44 : q_M_init S (f + 1) 44 [some (.ref i)] st h = (q_M_init S f 45 [some (.ref i)] (.ref i :: st) h) := by rw [q_M_init, hz_w_at d_M_init_44]; rfl
theorem e_M_init_44n : q_M_init S (f + 1) 44 [some .null] st h = (q_M_init S f 45 [some .null] (.null :: st) h) := by rw [q_M_init, hz_w_at d_M_init_44]; rfl
theorem d_M_init_45 : decode c_M_init 45 = .ok (.sipush 1080, 3) := by decide +kernel
theorem e_M_init_45 : q_M_init S (f + 1) 45 L st h = (q_M_init S f 48 L (.int (hz_n 1080) :: st) h) := by rw [q_M_init, hz_w_at d_M_init_45]; rfl
theorem d_M_init_48 : decode c_M_init 48 = .ok (.newarray .int, 2) := by decide +kernel
theorem e_M_init_48 : q_M_init S (f + 1) 48 L st h = (S 48 L st h) := by rw [q_M_init, hz_w_at d_M_init_48]; rfl
theorem d_M_init_50 : decode c_M_init 50 = .ok (.putfield 26, 3) := by decide +kernel
theorem e_M_init_50 : q_M_init S (f + 1) 50 L (.ref j :: .ref i :: st) h = (hz_wr h i 5 8 (.ref j) fun h => q_M_init S f 53 L st h) := by rw [q_M_init, hz_w_at d_M_init_50]; rfl
theorem d_M_init_53 : decode c_M_init 53 = .ok (.aload_n 0, 1) := by decide +kernel
theorem e_M_init_53 : q_M_init S (f + 1) 53 [some (.ref i)] st h = (q_M_init S f 54 [some (.ref i)] (.ref i :: st) h) := by rw [q_M_init, hz_w_at d_M_init_53]; rfl
theorem e_M_init_53n : q_M_init S (f + 1) 53 [some .null] st h = (q_M_init S f 54 [some .null] (.null :: st) h) := by rw [q_M_init, hz_w_at d_M_init_53]; rfl
theorem d_M_init_54 : decode c_M_init 54 = .ok (.sipush 1080, 3) := by decide +kernel
theorem e_M_init_54 : q_M_init S (f + 1) 54 L st h = (q_M_init S f 57 L (.int (hz_n 1080) :: st) h) := by rw [q_M_init, hz_w_at d_M_init_54]; rfl
theorem d_M_init_57 : decode c_M_init 57 = .ok (.newarray .int, 2) := by decide +kernel
theorem e_M_init_57 : q_M_init S (f + 1) 57 L st h = (S 57 L st h) := by rw [q_M_init, hz_w_at d_M_init_57]; rfl
theorem d_M_init_59 : decode c_M_init 59 = .ok (.putfield 29, 3) := by decide +kernel
theorem e_M_init_59 : q_M_init S (f + 1) 59 L (.ref j :: .ref i :: st) h = (hz_wr h i 5 9 (.ref j) fun h => q_M_init S f 62 L st h) := by rw [q_M_init, hz_w_at d_M_init_59]; rfl
theorem d_M_init_62 : decode c_M_init 62 = .ok (.aload_n 0, 1) := by decide +kernel
theorem e_M_init_62 : q_M_init S (f + 1) 62 [some (.ref i)] st h = (q_M_init S f 63 [some (.ref i)] (.ref i :: st) h) := by rw [q_M_init, hz_w_at d_M_init_62]; rfl
theorem e_M_init_62n : q_M_init S (f + 1) 62 [some .null] st h = (q_M_init S f 63 [some .null] (.null :: st) h) := by rw [q_M_init, hz_w_at d_M_init_62]; rfl
theorem d_M_init_63 : decode c_M_init 63 = .ok (.sipush 1080, 3) := by decide +kernel
theorem e_M_init_63 : q_M_init S (f + 1) 63 L st h = (q_M_init S f 66 L (.int (hz_n 1080) :: st) h) := by rw [q_M_init, hz_w_at d_M_init_63]; rfl
theorem d_M_init_66 : decode c_M_init 66 = .ok (.newarray .int, 2) := by decide +kernel
theorem e_M_init_66 : q_M_init S (f + 1) 66 L st h = (S 66 L st h) := by rw [q_M_init, hz_w_at d_M_init_66]; rfl
theorem d_M_init_68 : decode c_M_init 68 = .ok (.putfield 32, 3) := by decide +kernel
theorem e_M_init_68 : q_M_init S (f + 1) 68 L (.ref j :: .ref i :: st) h = (hz_wr h i 5 10 (.ref j) fun h => q_M_init S f 71 L st h) := by rw [q_M_init, hz_w_at d_M_init_68]; rfl
theorem d_M_init_71 : decode c_M_init 71 = .ok (.aload_n 0, 1) := by decide +kernel
theorem e_M_init_71 : q_M_init S (f + 1) 71 [some (.ref i)] st h = (q_M_init S f 72 [some (.ref i)] (.ref i :: st) h) := by rw [q_M_init, hz_w_at d_M_init_71]; rfl
theorem e_M_init_71n : q_M_init S (f + 1) 71 [some .null] st h = (q_M_init S f 72 [some .null] (.null :: st) h) := by rw [q_M_init, hz_w_at d_M_init_71]; rfl
theorem d_M_init_72 : decode c_M_init 72 = .ok (.bipush 40, 2) := by decide +kernel
theorem e_M_init_72 : q_M_init S (f + 1) 72 L st h = (q_M_init S f 74 L (.int (hz_n 40) :: st) h) := by rw [q_M_init, hz_w_at d_M_init_72]; rfl
theorem d_M_init_74 : decode c_M_init 74 = .ok (.newarray .int, 2) := by decide +kernel
theorem e_M_init_74 : q_M_init S (f + 1) 74 L st h = (S 74 L st h) := by rw [q_M_init, hz_w_at d_M_init_74]; rfl
theorem d_M_init_76 : decode c_M_init 76 = .ok (.putfield 35, 3) := by decide +kernel
theorem e_M_init_76 : q_M_init S (f + 1) 76 L (.ref j :: .ref i :: st) h = (hz_wr h i 5 11 (.ref j) fun h => q_M_init S f 79 L st h) := by rw [q_M_init, hz_w_at d_M_init_76]; rfl
theorem d_M_init_79 : decode c_M_init 79 = .ok (.aload_n 0, 1) := by decide +kernel
theorem e_M_init_79 : q_M_init S (f + 1) 79 [some (.ref i)] st h = (q_M_init S f 80 [some (.ref i)] (.ref i :: st) h) := by rw [q_M_init, hz_w_at d_M_init_79]; rfl
theorem e_M_init_79n : q_M_init S (f + 1) 79 [some .null] st h = (q_M_init S f 80 [some .null] (.null :: st) h) := by rw [q_M_init, hz_w_at d_M_init_79]; rfl
theorem d_M_init_80 : decode c_M_init 80 = .ok (.bipush 120, 2) := by decide +kernel
theorem e_M_init_80 : q_M_init S (f + 1) 80 L st h = (q_M_init S f 82 L (.int (hz_n 120) :: st) h) := by rw [q_M_init, hz_w_at d_M_init_80]; rfl
theorem d_M_init_82 : decode c_M_init 82 = .ok (.newarray .int, 2) := by decide +kernel
theorem e_M_init_82 : q_M_init S (f + 1) 82 L st h = (S 82 L st h) := by rw [q_M_init, hz_w_at d_M_init_82]; rfl
theorem d_M_init_84 : decode c_M_init 84 = .ok (.putfield 38, 3) := by decide +kernel
theorem e_M_init_84 : q_M_init S (f + 1) 84 L (.ref j :: .ref i :: st) h = (hz_wr h i 5 14 (.ref j) fun h => q_M_init S f 87 L st h) := by rw [q_M_init, hz_w_at d_M_init_84]; rfl
theorem d_M_init_87 : decode c_M_init 87 = .ok (.aload_n 0, 1) := by decide +kernel
theorem e_M_init_87 : q_M_init S (f + 1) 87 [some (.ref i)] st h = (q_M_init S f 88 [some (.ref i)] (.ref i :: st) h) := by rw [q_M_init, hz_w_at d_M_init_87]; rfl
theorem e_M_init_87n : q_M_init S (f + 1) 87 [some .null] st h = (q_M_init S f 88 [some .null] (.null :: st) h) := by rw [q_M_init, hz_w_at d_M_init_87]; rfl
theorem d_M_init_88 : decode c_M_init 88 = .ok (.bipush 120, 2) := by decide +kernel
theorem e_M_init_88 : q_M_init S (f + 1) 88 L st h = (q_M_init S f 90 L (.int (hz_n 120) :: st) h) := by rw [q_M_init, hz_w_at d_M_init_88]; rfl
theorem d_M_init_90 : decode c_M_init 90 = .ok (.newarray .int, 2) := by decide +kernel
theorem e_M_init_90 : q_M_init S (f + 1) 90 L st h = (S 90 L st h) := by rw [q_M_init, hz_w_at d_M_init_90]; rfl
theorem d_M_init_92 : decode c_M_init 92 = .ok (.putfield 41, 3) := by decide +kernel
theorem e_M_init_92 : q_M_init S (f + 1) 92 L (.ref j :: .ref i :: st) h = (hz_wr h i 5 15 (.ref j) fun h => q_M_init S f 95 L st h) := by rw [q_M_init, hz_w_at d_M_init_92]; rfl
theorem d_M_init_95 : decode c_M_init 95 = .ok (.aload_n 0, 1) := by decide +kernel
theorem e_M_init_95 : q_M_init S (f + 1) 95 [some (.ref i)] st h = (q_M_init S f 96 [some (.ref i)] (.ref i :: st) h) := by rw [q_M_init, hz_w_at d_M_init_95]; rfl
theorem e_M_init_95n : q_M_init S (f + 1) 95 [some .null] st h = (q_M_init S f 96 [some .null] (.null :: st) h) := by rw [q_M_init, hz_w_at d_M_init_95]; rfl
theorem d_M_init_96 : decode c_M_init 96 = .ok (.bipush 120, 2) := by decide +kernel
theorem e_M_init_96 : q_M_init S (f + 1) 96 L st h = (q_M_init S f 98 L (.int (hz_n 120) :: st) h) := by rw [q_M_init, hz_w_at d_M_init_96]; rfl
theorem d_M_init_98 : decode c_M_init 98 = .ok (.newarray .int, 2) := by decide +kernel
theorem e_M_init_98 : q_M_init S (f + 1) 98 L st h = (S 98 L st h) := by rw [q_M_init, hz_w_at d_M_init_98]; rfl
theorem d_M_init_100 : decode c_M_init 100 = .ok (.putfield 44, 3) := by decide +kernel
theorem e_M_init_100 : q_M_init S (f + 1) 100 L (.ref j :: .ref i :: st) h = (hz_wr h i 5 16 (.ref j) fun h => q_M_init S f 103 L st h) := by rw [q_M_init, hz_w_at d_M_init_100]; rfl
theorem d_M_init_103 : decode c_M_init 103 = .ok (.aload_n 0, 1) := by decide +kernel
theorem e_M_init_103 : q_M_init S (f + 1) 103 [some (.ref i)] st h = (q_M_init S f 104 [some (.ref i)] (.ref i :: st) h) := by rw [q_M_init, hz_w_at d_M_init_103]; rfl
theorem e_M_init_103n : q_M_init S (f + 1) 103 [some .null] st h = (q_M_init S f 104 [some .null] (.null :: st) h) := by rw [q_M_init, hz_w_at d_M_init_103]; rfl
theorem d_M_init_104 : decode c_M_init 104 = .ok (.sipush 1000, 3) := by decide +kernel
theorem e_M_init_104 : q_M_init S (f + 1) 104 L st h = (q_M_init S f 107 L (.int (hz_n 1000) :: st) h) := by rw [q_M_init, hz_w_at d_M_init_104]; rfl
theorem d_M_init_107 : decode c_M_init 107 = .ok (.newarray .int, 2) := by decide +kernel
theorem e_M_init_107 : q_M_init S (f + 1) 107 L st h = (S 107 L st h) := by rw [q_M_init, hz_w_at d_M_init_107]; rfl
theorem d_M_init_109 : decode c_M_init 109 = .ok (.putfield 47, 3) := by decide +kernel
theorem e_M_init_109 : q_M_init S (f + 1) 109 L (.ref j :: .ref i :: st) h = (hz_wr h i 5 18 (.ref j) fun h => q_M_init S f 112 L st h) := by rw [q_M_init, hz_w_at d_M_init_109]; rfl
theorem d_M_init_112 : decode c_M_init 112 = .ok (.aload_n 0, 1) := by decide +kernel
theorem e_M_init_112 : q_M_init S (f + 1) 112 [some (.ref i)] st h = (q_M_init S f 113 [some (.ref i)] (.ref i :: st) h) := by rw [q_M_init, hz_w_at d_M_init_112]; rfl
theorem e_M_init_112n : q_M_init S (f + 1) 112 [some .null] st h = (q_M_init S f 113 [some .null] (.null :: st) h) := by rw [q_M_init, hz_w_at d_M_init_112]; rfl
theorem d_M_init_113 : decode c_M_init 113 = .ok (.sipush 1000, 3) := by decide +kernel
theorem e_M_init_113 : q_M_init S (f + 1) 113 L st h = (q_M_init S f 116 L (.int (hz_n 1000) :: st) h) := by rw [q_M_init, hz_w_at d_M_init_113]; rfl
theorem d_M_init_116 : decode c_M_init 116 = .ok (.newarray .int, 2) := by decide +kernel
theorem e_M_init_116 : q_M_init S (f + 1) 116 L st h = (S 116 L st h) := by rw [q_M_init, hz_w_at d_M_init_116]; rfl
theorem d_M_init_118 : decode c_M_init 118 = .ok (.putfield 50, 3) := by decide +kernel
theorem e_M_init_118 : q_M_init S (f + 1) 118 L (.ref j :: .ref i :: st) h = (hz_wr h i 5 19 (.ref j) fun h => q_M_init S f 121 L st h) := by rw [q_M_init, hz_w_at d_M_init_118]; rfl
theorem d_M_init_121 : decode c_M_init 121 = .ok (.aload_n 0, 1) := by decide +kernel
theorem e_M_init_121 : q_M_init S (f + 1) 121 [some (.ref i)] st h = (q_M_init S f 122 [some (.ref i)] (.ref i :: st) h) := by rw [q_M_init, hz_w_at d_M_init_121]; rfl
theorem e_M_init_121n : q_M_init S (f + 1) 121 [some .null] st h = (q_M_init S f 122 [some .null] (.null :: st) h) := by rw [q_M_init, hz_w_at d_M_init_121]; rfl
theorem d_M_init_122 : decode c_M_init 122 = .ok (.sipush 1000, 3) := by decide +kernel
theorem e_M_init_122 : q_M_init S (f + 1) 122 L st h = (q_M_init S f 125 L (.int (hz_n 1000) :: st) h) := by rw [q_M_init, hz_w_at d_M_init_122]; rfl
theorem d_M_init_125 : decode c_M_init 125 = .ok (.newarray .int, 2) := by decide +kernel
theorem e_M_init_125 : q_M_init S (f + 1) 125 L st h = (S 125 L st h) := by rw [q_M_init, hz_w_at d_M_init_125]; rfl
theorem d_M_init_127 : decode c_M_init 127 = .ok (.putfield 53, 3) := by decide +kernel
theorem e_M_init_127 : q_M_init S (f + 1) 127 L (.ref j :: .ref i :: st) h = (hz_wr h i 5 20 (.ref j) fun h => q_M_init S f 130 L st h) := by rw [q_M_init, hz_w_at d_M_init_127]; rfl
theorem d_M_init_130 : decode c_M_init 130 = .ok (.aload_n 0, 1) := by decide +kernel
theorem e_M_init_130 : q_M_init S (f + 1) 130 [some (.ref i)] st h = (q_M_init S f 131 [some (.ref i)] (.ref i :: st) h) := by rw [q_M_init, hz_w_at d_M_init_130]; rfl
theorem e_M_init_130n : q_M_init S (f + 1) 130 [some .null] st h = (q_M_init S f 131 [some .null] (.null :: st) h) := by rw [q_M_init, hz_w_at d_M_init_130]; rfl
theorem d_M_init_131 : decode c_M_init 131 = .ok (.sipush 1000, 3) := by decide +kernel
theorem e_M_init_131 : q_M_init S (f + 1) 131 L st h = (q_M_init S f 134 L (.int (hz_n 1000) :: st) h) := by rw [q_M_init, hz_w_at d_M_init_131]; rfl
theorem d_M_init_134 : decode c_M_init 134 = .ok (.newarray .int, 2) := by decide +kernel
theorem e_M_init_134 : q_M_init S (f + 1) 134 L st h = (S 134 L st h) := by rw [q_M_init, hz_w_at d_M_init_134]; rfl
theorem d_M_init_136 : decode c_M_init 136 = .ok (.putfield 56, 3) := by decide +kernel
theorem e_M_init_136 : q_M_init S (f + 1) 136 L (.ref j :: .ref i :: st) h = (hz_wr h i 5 21 (.ref j) fun h => q_M_init S f 139 L st h) := by rw [q_M_init, hz_w_at d_M_init_136]; rfl
theorem d_M_init_139 : decode c_M_init 139 = .ok (.aload_n 0, 1) := by decide +kernel
theorem e_M_init_139 : q_M_init S (f + 1) 139 [some (.ref i)] st h = (q_M_init S f 140 [some (.ref i)] (.ref i :: st) h) := by rw [q_M_init, hz_w_at d_M_init_139]; rfl
theorem e_M_init_139n : q_M_init S (f + 1) 139 [some .null] st h = (q_M_init S f 140 [some .null] (.null :: st) h) := by rw [q_M_init, hz_w_at d_M_init_139]; rfl
theorem d_M_init_140 : decode c_M_init 140 = .ok (.bipush 26, 2) := by decide +kernel
theorem e_M_init_140 : q_M_init S (f + 1) 140 L st h = (q_M_init S f 142 L (.int (hz_n 26) :: st) h) := by rw [q_M_init, hz_w_at d_M_init_140]; rfl
theorem d_M_init_142 : decode c_M_init 142 = .ok (.newarray .int, 2) := by decide +kernel
theorem e_M_init_142 : q_M_init S (f + 1) 142 L st h = (S 142 L st h) := by rw [q_M_init, hz_w_at d_M_init_142]; rfl
theorem d_M_init_144 : decode c_M_init 144 = .ok (.putfield 59, 3) := by decide +kernel
theorem e_M_init_144 : q_M_init S (f + 1) 144 L (.ref j :: .ref i :: st) h = (hz_wr h i 5 22 (.ref j) fun h => q_M_init S f 147 L st h) := by rw [q_M_init, hz_w_at d_M_init_144]; rfl
theorem d_M_init_147 : decode c_M_init 147 = .ok (.aload_n 0, 1) := by decide +kernel
theorem e_M_init_147 : q_M_init S (f + 1) 147 [some (.ref i)] st h = (q_M_init S f 148 [some (.ref i)] (.ref i :: st) h) := by rw [q_M_init, hz_w_at d_M_init_147]; rfl
theorem e_M_init_147n : q_M_init S (f + 1) 147 [some .null] st h = (q_M_init S f 148 [some .null] (.null :: st) h) := by rw [q_M_init, hz_w_at d_M_init_147]; rfl
theorem d_M_init_148 : decode c_M_init 148 = .ok (.sipush 2600, 3) := by decide +kernel
theorem e_M_init_148 : q_M_init S (f + 1) 148 L st h = (q_M_init S f 151 L (.int (hz_n 2600) :: st) h) := by rw [q_M_init, hz_w_at d_M_init_148]; rfl
theorem d_M_init_151 : decode c_M_init 151 = .ok (.newarray .int, 2) := by decide +kernel
theorem e_M_init_151 : q_M_init S (f + 1) 151 L st h = (S 151 L st h) := by rw [q_M_init, hz_w_at d_M_init_151]; rfl
theorem d_M_init_153 : decode c_M_init 153 = .ok (.putfield 62, 3) := by decide +kernel
theorem e_M_init_153 : q_M_init S (f + 1) 153 L (.ref j :: .ref i :: st) h = (hz_wr h i 5 24 (.ref j) fun h => q_M_init S f 156 L st h) := by rw [q_M_init, hz_w_at d_M_init_153]; rfl
theorem d_M_init_156 : decode c_M_init 156 = .ok (.aload_n 0, 1) := by decide +kernel
theorem e_M_init_156 : q_M_init S (f + 1) 156 [some (.ref i)] st h = (q_M_init S f 157 [some (.ref i)] (.ref i :: st) h) := by rw [q_M_init, hz_w_at d_M_init_156]; rfl
theorem e_M_init_156n : q_M_init S (f + 1) 156 [some .null] st h = (q_M_init S f 157 [some .null] (.null :: st) h) := by rw [q_M_init, hz_w_at d_M_init_156]; rfl
theorem d_M_init_157 : decode c_M_init 157 = .ok (.sipush 950, 3) := by decide +kernel
theorem e_M_init_157 : q_M_init S (f + 1) 157 L st h = (q_M_init S f 160 L (.int (hz_n 950) :: st) h) := by rw [q_M_init, hz_w_at d_M_init_157]; rfl
theorem d_M_init_160 : decode c_M_init 160 = .ok (.newarray .int, 2) := by decide +kernel
theorem e_M_init_160 : q_M_init S (f + 1) 160 L st h = (S 160 L st h) := by rw [q_M_init, hz_w_at d_M_init_160]; rfl
theorem d_M_init_162 : decode c_M_init 162 = .ok (.putfield 65, 3) := by decide +kernel
theorem e_M_init_162 : q_M_init S (f + 1) 162 L (.ref j :: .ref i :: st) h = (hz_wr h i 5 26 (.ref j) fun h => q_M_init S f 165 L st h) := by rw [q_M_init, hz_w_at d_M_init_162]; rfl
theorem d_M_init_165 : decode c_M_init 165 = .ok (.aload_n 0, 1) := by decide +kernel
theorem e_M_init_165 : q_M_init S (f + 1) 165 [some (.ref i)] st h = (q_M_init S f 166 [some (.ref i)] (.ref i :: st) h) := by rw [q_M_init, hz_w_at d_M_init_165]; rfl
theorem e_M_init_165n : q_M_init S (f + 1) 165 [some .null] st h = (q_M_init S f 166 [some .null] (.null :: st) h) := by rw [q_M_init, hz_w_at d_M_init_165]; rfl
theorem d_M_init_166 : decode c_M_init 166 = .ok (.sipush 950, 3) := by decide +kernel
theorem e_M_init_166 : q_M_init S (f + 1) 166 L st h = (q_M_init S f 169 L (.int (hz_n 950) :: st) h) := by rw [q_M_init, hz_w_at d_M_init_166]; rfl
theorem d_M_init_169 : decode c_M_init 169 = .ok (.newarray .int, 2) := by decide +kernel
theorem e_M_init_169 : q_M_init S (f + 1) 169 L st h = (S 169 L st h) := by rw [q_M_init, hz_w_at d_M_init_169]; rfl
theorem d_M_init_171 : decode c_M_init 171 = .ok (.putfield 68, 3) := by decide +kernel
theorem e_M_init_171 : q_M_init S (f + 1) 171 L (.ref j :: .ref i :: st) h = (hz_wr h i 5 27 (.ref j) fun h => q_M_init S f 174 L st h) := by rw [q_M_init, hz_w_at d_M_init_171]; rfl
theorem d_M_init_174 : decode c_M_init 174 = .ok (.aload_n 0, 1) := by decide +kernel
theorem e_M_init_174 : q_M_init S (f + 1) 174 [some (.ref i)] st h = (q_M_init S f 175 [some (.ref i)] (.ref i :: st) h) := by rw [q_M_init, hz_w_at d_M_init_174]; rfl
theorem e_M_init_174n : q_M_init S (f + 1) 174 [some .null] st h = (q_M_init S f 175 [some .null] (.null :: st) h) := by rw [q_M_init, hz_w_at d_M_init_174]; rfl
theorem d_M_init_175 : decode c_M_init 175 = .ok (.sipush 950, 3) := by decide +kernel
theorem e_M_init_175 : q_M_init S (f + 1) 175 L st h = (q_M_init S f 178 L (.int (hz_n 950) :: st) h) := by rw [q_M_init, hz_w_at d_M_init_175]; rfl
theorem d_M_init_178 : decode c_M_init 178 = .ok (.newarray .int, 2) := by decide +kernel
theorem e_M_init_178 : q_M_init S (f + 1) 178 L st h = (S 178 L st h) := by rw [q_M_init, hz_w_at d_M_init_178]; rfl
theorem d_M_init_180 : decode c_M_init 180 = .ok (.putfield 71, 3) := by decide +kernel
theorem e_M_init_180 : q_M_init S (f + 1) 180 L (.ref j :: .ref i :: st) h = (hz_wr h i 5 28 (.ref j) fun h => q_M_init S f 183 L st h) := by rw [q_M_init, hz_w_at d_M_init_180]; rfl
theorem d_M_init_183 : decode c_M_init 183 = .ok (.aload_n 0, 1) := by decide +kernel
theorem e_M_init_183 : q_M_init S (f + 1) 183 [some (.ref i)] st h = (q_M_init S f 184 [some (.ref i)] (.ref i :: st) h) := by rw [q_M_init, hz_w_at d_M_init_183]; rfl
theorem e_M_init_183n : q_M_init S (f + 1) 183 [some .null] st h = (q_M_init S f 184 [some .null] (.null :: st) h) := by rw [q_M_init, hz_w_at d_M_init_183]; rfl
theorem d_M_init_184 : decode c_M_init 184 = .ok (.sipush 2150, 3) := by decide +kernel
theorem e_M_init_184 : q_M_init S (f + 1) 184 L st h = (q_M_init S f 187 L (.int (hz_n 2150) :: st) h) := by rw [q_M_init, hz_w_at d_M_init_184]; rfl
theorem d_M_init_187 : decode c_M_init 187 = .ok (.newarray .int, 2) := by decide +kernel
theorem e_M_init_187 : q_M_init S (f + 1) 187 L st h = (S 187 L st h) := by rw [q_M_init, hz_w_at d_M_init_187]; rfl
theorem d_M_init_189 : decode c_M_init 189 = .ok (.putfield 74, 3) := by decide +kernel
theorem e_M_init_189 : q_M_init S (f + 1) 189 L (.ref j :: .ref i :: st) h = (hz_wr h i 5 30 (.ref j) fun h => q_M_init S f 192 L st h) := by rw [q_M_init, hz_w_at d_M_init_189]; rfl
theorem d_M_init_192 : decode c_M_init 192 = .ok (.aload_n 0, 1) := by decide +kernel
theorem e_M_init_192 : q_M_init S (f + 1) 192 [some (.ref i)] st h = (q_M_init S f 193 [some (.ref i)] (.ref i :: st) h) := by rw [q_M_init, hz_w_at d_M_init_192]; rfl
theorem e_M_init_192n : q_M_init S (f + 1) 192 [some .null] st h = (q_M_init S f 193 [some .null] (.null :: st) h) := by rw [q_M_init, hz_w_at d_M_init_192]; rfl
theorem d_M_init_193 : decode c_M_init 193 = .ok (.sipush 2150, 3) := by decide +kernel
theorem e_M_init_193 : q_M_init S (f + 1) 193 L st h = (q_M_init S f 196 L (.int (hz_n 2150) :: st) h) := by rw [q_M_init, hz_w_at d_M_init_193]; rfl
theorem d_M_init_196 : decode c_M_init 196 = .ok (.newarray .int, 2) := by decide +kernel
theorem e_M_init_196 : q_M_init S (f + 1) 196 L st h = (S 196 L st h) := by rw [q_M_init, hz_w_at d_M_init_196]; rfl
theorem d_M_init_198 : decode c_M_init 198 = .ok (.putfield 77, 3) := by decide +kernel
theorem e_M_init_198 : q_M_init S (f + 1) 198 L (.ref j :: .ref i :: st) h = (hz_wr h i 5 31 (.ref j) fun h => q_M_init S f 201 L st h) := by rw [q_M_init, hz_w_at d_M_init_198]; rfl
theorem d_M_init_201 : decode c_M_init 201 = .ok (.return_, 1) := by decide +kernel
theorem e_M_init_201 : q_M_init S (f + 1) 201 L st h = (S 201 L st h) := by rw [q_M_init, hz_w_at d_M_init_201]; rfl
end
abbrev q_M_thrown (S : Nat → List (Option Value) → List Value → hz_H → Prop) := hz_w zCl zKT f_M n_M c_M_thrown [] S
section
variable {S : Nat → List (Option Value) → List Value → hz_H → Prop} {f : Nat} {L : List (Option Value)} {st : List Value} {h : hz_H} {x y : Int32} {i j : Nat} {X Y : Int64}
theorem d_M_thrown_0 : decode c_M_thrown 0 = .ok (.aload_n 0, 1) := by decide +kernel
theorem e_M_thrown_0 : q_M_thrown S (f + 1) 0 [some (.ref i)] st h = (q_M_thrown S f 1 [some (.ref i)] (.ref i :: st) h) := by rw [q_M_thrown, hz_w_at d_M_thrown_0]; rfl
theorem e_M_thrown_0n : q_M_thrown S (f + 1) 0 [some .null] st h = (q_M_thrown S f 1 [some .null] (.null :: st) h) := by rw [q_M_thrown, hz_w_at d_M_thrown_0]; rfl
theorem d_M_thrown_1 : decode c_M_thrown 1 = .ok (.getfield 80, 3) := by decide +kernel
theorem e_M_thrown_1 : q_M_thrown S (f + 1) 1 L (.ref i :: st) h = (hz_rd h i 5 0 fun v => q_M_thrown S f 4 L (v :: st) h) := by rw [q_M_thrown, hz_w_at d_M_thrown_1]; rfl
theorem d_M_thrown_4 : decode c_M_thrown 4 = .ok (.ireturn, 1) := by decide +kernel
theorem e_M_thrown_4 : q_M_thrown S (f + 1) 4 L st h = (S 4 L st h) := by rw [q_M_thrown, hz_w_at d_M_thrown_4]; rfl
end
abbrev q_M_isVariable (S : Nat → List (Option Value) → List Value → hz_H → Prop) := hz_w zCl zKT f_M n_M c_M_isVariable [] S
section
variable {S : Nat → List (Option Value) → List Value → hz_H → Prop} {f : Nat} {L : List (Option Value)} {st : List Value} {h : hz_H} {x y : Int32} {i j : Nat} {X Y : Int64}
theorem d_M_isVariable_0 : decode c_M_isVariable 0 = .ok (.iload_n 0, 1) := by decide +kernel
theorem e_M_isVariable_0 : q_M_isVariable S (f + 1) 0 [some (.int x)] st h = (q_M_isVariable S f 1 [some (.int x)] (.int x :: st) h) := by rw [q_M_isVariable, hz_w_at d_M_isVariable_0]; rfl
theorem d_M_isVariable_1 : decode c_M_isVariable 1 = .ok (.bipush 97, 2) := by decide +kernel
theorem e_M_isVariable_1 : q_M_isVariable S (f + 1) 1 L st h = (q_M_isVariable S f 3 L (.int (hz_n 97) :: st) h) := by rw [q_M_isVariable, hz_w_at d_M_isVariable_1]; rfl
theorem d_M_isVariable_3 : decode c_M_isVariable 3 = .ok (.if_icmp .lt 13, 3) := by decide +kernel
theorem e_M_isVariable_3 : q_M_isVariable S (f + 1) 3 L (.int y :: .int x :: st) h = ((x.toInt < y.toInt → q_M_isVariable S f 16 L st h) ∧ (¬ (x.toInt < y.toInt) → q_M_isVariable S f 6 L st h)) := by rw [q_M_isVariable, hz_w_at d_M_isVariable_3]; rfl
theorem d_M_isVariable_6 : decode c_M_isVariable 6 = .ok (.iload_n 0, 1) := by decide +kernel
theorem e_M_isVariable_6 : q_M_isVariable S (f + 1) 6 [some (.int x)] st h = (q_M_isVariable S f 7 [some (.int x)] (.int x :: st) h) := by rw [q_M_isVariable, hz_w_at d_M_isVariable_6]; rfl
theorem d_M_isVariable_7 : decode c_M_isVariable 7 = .ok (.bipush 122, 2) := by decide +kernel
theorem e_M_isVariable_7 : q_M_isVariable S (f + 1) 7 L st h = (q_M_isVariable S f 9 L (.int (hz_n 122) :: st) h) := by rw [q_M_isVariable, hz_w_at d_M_isVariable_7]; rfl
theorem d_M_isVariable_9 : decode c_M_isVariable 9 = .ok (.if_icmp .gt 7, 3) := by decide +kernel
theorem e_M_isVariable_9 : q_M_isVariable S (f + 1) 9 L (.int y :: .int x :: st) h = ((y.toInt < x.toInt → q_M_isVariable S f 16 L st h) ∧ (¬ (y.toInt < x.toInt) → q_M_isVariable S f 12 L st h)) := by rw [q_M_isVariable, hz_w_at d_M_isVariable_9]; rfl
theorem d_M_isVariable_12 : decode c_M_isVariable 12 = .ok (.iconst 1, 1) := by decide +kernel
theorem e_M_isVariable_12 : q_M_isVariable S (f + 1) 12 L st h = (q_M_isVariable S f 13 L (.int (hz_n 1) :: st) h) := by rw [q_M_isVariable, hz_w_at d_M_isVariable_12]; rfl
theorem d_M_isVariable_13 : decode c_M_isVariable 13 = .ok (.goto 4, 3) := by decide +kernel
theorem e_M_isVariable_13 : q_M_isVariable S (f + 1) 13 L st h = (q_M_isVariable S f 17 L st h) := by rw [q_M_isVariable, hz_w_at d_M_isVariable_13]; rfl
theorem d_M_isVariable_16 : decode c_M_isVariable 16 = .ok (.iconst 0, 1) := by decide +kernel
theorem e_M_isVariable_16 : q_M_isVariable S (f + 1) 16 L st h = (q_M_isVariable S f 17 L (.int (hz_n 0) :: st) h) := by rw [q_M_isVariable, hz_w_at d_M_isVariable_16]; rfl
theorem d_M_isVariable_17 : decode c_M_isVariable 17 = .ok (.ireturn, 1) := by decide +kernel
theorem e_M_isVariable_17 : q_M_isVariable S (f + 1) 17 L st h = (S 17 L st h) := by rw [q_M_isVariable, hz_w_at d_M_isVariable_17]; rfl
end
abbrev q_M_isLetter (S : Nat → List (Option Value) → List Value → hz_H → Prop) := hz_w zCl zKT f_M n_M c_M_isLetter [] S
section
variable {S : Nat → List (Option Value) → List Value → hz_H → Prop} {f : Nat} {L : List (Option Value)} {st : List Value} {h : hz_H} {x y : Int32} {i j : Nat} {X Y : Int64}
theorem d_M_isLetter_0 : decode c_M_isLetter 0 = .ok (.iload_n 0, 1) := by decide +kernel
theorem e_M_isLetter_0 : q_M_isLetter S (f + 1) 0 [some (.int x)] st h = (q_M_isLetter S f 1 [some (.int x)] (.int x :: st) h) := by rw [q_M_isLetter, hz_w_at d_M_isLetter_0]; rfl
theorem d_M_isLetter_1 : decode c_M_isLetter 1 = .ok (.bipush 65, 2) := by decide +kernel
theorem e_M_isLetter_1 : q_M_isLetter S (f + 1) 1 L st h = (q_M_isLetter S f 3 L (.int (hz_n 65) :: st) h) := by rw [q_M_isLetter, hz_w_at d_M_isLetter_1]; rfl
theorem d_M_isLetter_3 : decode c_M_isLetter 3 = .ok (.if_icmp .lt 13, 3) := by decide +kernel
theorem e_M_isLetter_3 : q_M_isLetter S (f + 1) 3 L (.int y :: .int x :: st) h = ((x.toInt < y.toInt → q_M_isLetter S f 16 L st h) ∧ (¬ (x.toInt < y.toInt) → q_M_isLetter S f 6 L st h)) := by rw [q_M_isLetter, hz_w_at d_M_isLetter_3]; rfl
theorem d_M_isLetter_6 : decode c_M_isLetter 6 = .ok (.iload_n 0, 1) := by decide +kernel
theorem e_M_isLetter_6 : q_M_isLetter S (f + 1) 6 [some (.int x)] st h = (q_M_isLetter S f 7 [some (.int x)] (.int x :: st) h) := by rw [q_M_isLetter, hz_w_at d_M_isLetter_6]; rfl
theorem d_M_isLetter_7 : decode c_M_isLetter 7 = .ok (.bipush 90, 2) := by decide +kernel
theorem e_M_isLetter_7 : q_M_isLetter S (f + 1) 7 L st h = (q_M_isLetter S f 9 L (.int (hz_n 90) :: st) h) := by rw [q_M_isLetter, hz_w_at d_M_isLetter_7]; rfl
theorem d_M_isLetter_9 : decode c_M_isLetter 9 = .ok (.if_icmp .gt 7, 3) := by decide +kernel
theorem e_M_isLetter_9 : q_M_isLetter S (f + 1) 9 L (.int y :: .int x :: st) h = ((y.toInt < x.toInt → q_M_isLetter S f 16 L st h) ∧ (¬ (y.toInt < x.toInt) → q_M_isLetter S f 12 L st h)) := by rw [q_M_isLetter, hz_w_at d_M_isLetter_9]; rfl
theorem d_M_isLetter_12 : decode c_M_isLetter 12 = .ok (.iconst 1, 1) := by decide +kernel
theorem e_M_isLetter_12 : q_M_isLetter S (f + 1) 12 L st h = (q_M_isLetter S f 13 L (.int (hz_n 1) :: st) h) := by rw [q_M_isLetter, hz_w_at d_M_isLetter_12]; rfl
theorem d_M_isLetter_13 : decode c_M_isLetter 13 = .ok (.goto 4, 3) := by decide +kernel
theorem e_M_isLetter_13 : q_M_isLetter S (f + 1) 13 L st h = (q_M_isLetter S f 17 L st h) := by rw [q_M_isLetter, hz_w_at d_M_isLetter_13]; rfl
theorem d_M_isLetter_16 : decode c_M_isLetter 16 = .ok (.iconst 0, 1) := by decide +kernel
theorem e_M_isLetter_16 : q_M_isLetter S (f + 1) 16 L st h = (q_M_isLetter S f 17 L (.int (hz_n 0) :: st) h) := by rw [q_M_isLetter, hz_w_at d_M_isLetter_16]; rfl
theorem d_M_isLetter_17 : decode c_M_isLetter 17 = .ok (.ireturn, 1) := by decide +kernel
theorem e_M_isLetter_17 : q_M_isLetter S (f + 1) 17 L st h = (S 17 L st h) := by rw [q_M_isLetter, hz_w_at d_M_isLetter_17]; rfl
end
abbrev q_M_type (S : Nat → List (Option Value) → List Value → hz_H → Prop) := hz_w zCl zKT f_M n_M c_M_type [] S
section
variable {S : Nat → List (Option Value) → List Value → hz_H → Prop} {f : Nat} {L : List (Option Value)} {st : List Value} {h : hz_H} {x y : Int32} {i j : Nat} {X Y : Int64}
theorem d_M_type_0 : decode c_M_type 0 = .ok (.aload_n 0, 1) := by decide +kernel
theorem e_M_type_0 {a1 : Option Value} : q_M_type S (f + 1) 0 [some (.ref i), a1] st h = (q_M_type S f 1 [some (.ref i), a1] (.ref i :: st) h) := by rw [q_M_type, hz_w_at d_M_type_0]; rfl
theorem e_M_type_0n {a1 : Option Value} : q_M_type S (f + 1) 0 [some .null, a1] st h = (q_M_type S f 1 [some .null, a1] (.null :: st) h) := by rw [q_M_type, hz_w_at d_M_type_0]; rfl
theorem d_M_type_1 : decode c_M_type 1 = .ok (.iconst 0, 1) := by decide +kernel
theorem e_M_type_1 : q_M_type S (f + 1) 1 L st h = (q_M_type S f 2 L (.int (hz_n 0) :: st) h) := by rw [q_M_type, hz_w_at d_M_type_1]; rfl
theorem d_M_type_2 : decode c_M_type 2 = .ok (.putfield 80, 3) := by decide +kernel
theorem e_M_type_2 : q_M_type S (f + 1) 2 L (.int x :: .ref i :: st) h = (hz_wr h i 5 0 (.int x) fun h => q_M_type S f 5 L st h) := by rw [q_M_type, hz_w_at d_M_type_2]; rfl
theorem d_M_type_5 : decode c_M_type 5 = .ok (.iload_n 1, 1) := by decide +kernel
theorem e_M_type_5 {a0 : Option Value} : q_M_type S (f + 1) 5 [a0, some (.int x)] st h = (q_M_type S f 6 [a0, some (.int x)] (.int x :: st) h) := by rw [q_M_type, hz_w_at d_M_type_5]; rfl
theorem d_M_type_6 : decode c_M_type 6 = .ok (.bipush 32, 2) := by decide +kernel
theorem e_M_type_6 : q_M_type S (f + 1) 6 L st h = (q_M_type S f 8 L (.int (hz_n 32) :: st) h) := by rw [q_M_type, hz_w_at d_M_type_6]; rfl
theorem d_M_type_8 : decode c_M_type 8 = .ok (.if_icmp .lt 18, 3) := by decide +kernel
theorem e_M_type_8 : q_M_type S (f + 1) 8 L (.int y :: .int x :: st) h = ((x.toInt < y.toInt → q_M_type S f 26 L st h) ∧ (¬ (x.toInt < y.toInt) → q_M_type S f 11 L st h)) := by rw [q_M_type, hz_w_at d_M_type_8]; rfl
theorem d_M_type_11 : decode c_M_type 11 = .ok (.iload_n 1, 1) := by decide +kernel
theorem e_M_type_11 {a0 : Option Value} : q_M_type S (f + 1) 11 [a0, some (.int x)] st h = (q_M_type S f 12 [a0, some (.int x)] (.int x :: st) h) := by rw [q_M_type, hz_w_at d_M_type_11]; rfl
theorem d_M_type_12 : decode c_M_type 12 = .ok (.bipush 126, 2) := by decide +kernel
theorem e_M_type_12 : q_M_type S (f + 1) 12 L st h = (q_M_type S f 14 L (.int (hz_n 126) :: st) h) := by rw [q_M_type, hz_w_at d_M_type_12]; rfl
theorem d_M_type_14 : decode c_M_type 14 = .ok (.if_icmp .gt 12, 3) := by decide +kernel
theorem e_M_type_14 : q_M_type S (f + 1) 14 L (.int y :: .int x :: st) h = ((y.toInt < x.toInt → q_M_type S f 26 L st h) ∧ (¬ (y.toInt < x.toInt) → q_M_type S f 17 L st h)) := by rw [q_M_type, hz_w_at d_M_type_14]; rfl
theorem d_M_type_17 : decode c_M_type 17 = .ok (.aload_n 0, 1) := by decide +kernel
theorem e_M_type_17 {a1 : Option Value} : q_M_type S (f + 1) 17 [some (.ref i), a1] st h = (q_M_type S f 18 [some (.ref i), a1] (.ref i :: st) h) := by rw [q_M_type, hz_w_at d_M_type_17]; rfl
theorem e_M_type_17n {a1 : Option Value} : q_M_type S (f + 1) 17 [some .null, a1] st h = (q_M_type S f 18 [some .null, a1] (.null :: st) h) := by rw [q_M_type, hz_w_at d_M_type_17]; rfl
theorem d_M_type_18 : decode c_M_type 18 = .ok (.getfield 84, 3) := by decide +kernel
theorem e_M_type_18 : q_M_type S (f + 1) 18 L (.ref i :: st) h = (hz_rd h i 5 1 fun v => q_M_type S f 21 L (v :: st) h) := by rw [q_M_type, hz_w_at d_M_type_18]; rfl
theorem d_M_type_21 : decode c_M_type 21 = .ok (.bipush 40, 2) := by decide +kernel
theorem e_M_type_21 : q_M_type S (f + 1) 21 L st h = (q_M_type S f 23 L (.int (hz_n 40) :: st) h) := by rw [q_M_type, hz_w_at d_M_type_21]; rfl
theorem d_M_type_23 : decode c_M_type 23 = .ok (.if_icmp .ne 5, 3) := by decide +kernel
theorem e_M_type_23 : q_M_type S (f + 1) 23 L (.int y :: .int x :: st) h = ((¬ x.toInt = y.toInt → q_M_type S f 28 L st h) ∧ (¬ (¬ x.toInt = y.toInt) → q_M_type S f 26 L st h)) := by rw [q_M_type, hz_w_at d_M_type_23]; rfl
theorem d_M_type_26 : decode c_M_type 26 = .ok (.iconst 0, 1) := by decide +kernel
theorem e_M_type_26 : q_M_type S (f + 1) 26 L st h = (q_M_type S f 27 L (.int (hz_n 0) :: st) h) := by rw [q_M_type, hz_w_at d_M_type_26]; rfl
theorem d_M_type_27 : decode c_M_type 27 = .ok (.ireturn, 1) := by decide +kernel
theorem e_M_type_27 : q_M_type S (f + 1) 27 L st h = (S 27 L st h) := by rw [q_M_type, hz_w_at d_M_type_27]; rfl
theorem d_M_type_28 : decode c_M_type 28 = .ok (.aload_n 0, 1) := by decide +kernel
theorem e_M_type_28 {a1 : Option Value} : q_M_type S (f + 1) 28 [some (.ref i), a1] st h = (q_M_type S f 29 [some (.ref i), a1] (.ref i :: st) h) := by rw [q_M_type, hz_w_at d_M_type_28]; rfl
theorem e_M_type_28n {a1 : Option Value} : q_M_type S (f + 1) 28 [some .null, a1] st h = (q_M_type S f 29 [some .null, a1] (.null :: st) h) := by rw [q_M_type, hz_w_at d_M_type_28]; rfl
theorem d_M_type_29 : decode c_M_type 29 = .ok (.getfield 7, 3) := by decide +kernel
theorem e_M_type_29 : q_M_type S (f + 1) 29 L (.ref i :: st) h = (hz_rd h i 5 2 fun v => q_M_type S f 32 L (v :: st) h) := by rw [q_M_type, hz_w_at d_M_type_29]; rfl
theorem d_M_type_32 : decode c_M_type 32 = .ok (.aload_n 0, 1) := by decide +kernel
theorem e_M_type_32 {a1 : Option Value} : q_M_type S (f + 1) 32 [some (.ref i), a1] st h = (q_M_type S f 33 [some (.ref i), a1] (.ref i :: st) h) := by rw [q_M_type, hz_w_at d_M_type_32]; rfl
theorem e_M_type_32n {a1 : Option Value} : q_M_type S (f + 1) 32 [some .null, a1] st h = (q_M_type S f 33 [some .null, a1] (.null :: st) h) := by rw [q_M_type, hz_w_at d_M_type_32]; rfl
theorem d_M_type_33 : decode c_M_type 33 = .ok (.getfield 84, 3) := by decide +kernel
theorem e_M_type_33 : q_M_type S (f + 1) 33 L (.ref i :: st) h = (hz_rd h i 5 1 fun v => q_M_type S f 36 L (v :: st) h) := by rw [q_M_type, hz_w_at d_M_type_33]; rfl
theorem d_M_type_36 : decode c_M_type 36 = .ok (.iload_n 1, 1) := by decide +kernel
theorem e_M_type_36 {a0 : Option Value} : q_M_type S (f + 1) 36 [a0, some (.int x)] st h = (q_M_type S f 37 [a0, some (.int x)] (.int x :: st) h) := by rw [q_M_type, hz_w_at d_M_type_36]; rfl
theorem d_M_type_37 : decode c_M_type 37 = .ok (.iastore, 1) := by decide +kernel
theorem e_M_type_37 : q_M_type S (f + 1) 37 L (.int y :: .int x :: .ref i :: st) h = (hz_es zKT hz_kI h i x (.int y) fun h => q_M_type S f 38 L st h) := by rw [q_M_type, hz_w_at d_M_type_37]; rfl
theorem d_M_type_38 : decode c_M_type 38 = .ok (.aload_n 0, 1) := by decide +kernel
theorem e_M_type_38 {a1 : Option Value} : q_M_type S (f + 1) 38 [some (.ref i), a1] st h = (q_M_type S f 39 [some (.ref i), a1] (.ref i :: st) h) := by rw [q_M_type, hz_w_at d_M_type_38]; rfl
theorem e_M_type_38n {a1 : Option Value} : q_M_type S (f + 1) 38 [some .null, a1] st h = (q_M_type S f 39 [some .null, a1] (.null :: st) h) := by rw [q_M_type, hz_w_at d_M_type_38]; rfl
theorem d_M_type_39 : decode c_M_type 39 = .ok (.dup, 1) := by decide +kernel
theorem e_M_type_39 : q_M_type S (f + 1) 39 L (.ref i :: st) h = (q_M_type S f 40 L (.ref i :: .ref i :: st) h) := by rw [q_M_type, hz_w_at d_M_type_39]; rfl
theorem e_M_type_39i : q_M_type S (f + 1) 39 L (.int x :: st) h = (q_M_type S f 40 L (.int x :: .int x :: st) h) := by rw [q_M_type, hz_w_at d_M_type_39]; rfl
theorem d_M_type_40 : decode c_M_type 40 = .ok (.getfield 84, 3) := by decide +kernel
theorem e_M_type_40 : q_M_type S (f + 1) 40 L (.ref i :: st) h = (hz_rd h i 5 1 fun v => q_M_type S f 43 L (v :: st) h) := by rw [q_M_type, hz_w_at d_M_type_40]; rfl
theorem d_M_type_43 : decode c_M_type 43 = .ok (.iconst 1, 1) := by decide +kernel
theorem e_M_type_43 : q_M_type S (f + 1) 43 L st h = (q_M_type S f 44 L (.int (hz_n 1) :: st) h) := by rw [q_M_type, hz_w_at d_M_type_43]; rfl
theorem d_M_type_44 : decode c_M_type 44 = .ok (.iadd, 1) := by decide +kernel
theorem e_M_type_44 : q_M_type S (f + 1) 44 L (.int y :: .int x :: st) h = (q_M_type S f 45 L (.int (x + y) :: st) h) := by rw [q_M_type, hz_w_at d_M_type_44]; rfl
theorem d_M_type_45 : decode c_M_type 45 = .ok (.putfield 84, 3) := by decide +kernel
theorem e_M_type_45 : q_M_type S (f + 1) 45 L (.int x :: .ref i :: st) h = (hz_wr h i 5 1 (.int x) fun h => q_M_type S f 48 L st h) := by rw [q_M_type, hz_w_at d_M_type_45]; rfl
theorem d_M_type_48 : decode c_M_type 48 = .ok (.iconst 1, 1) := by decide +kernel
theorem e_M_type_48 : q_M_type S (f + 1) 48 L st h = (q_M_type S f 49 L (.int (hz_n 1) :: st) h) := by rw [q_M_type, hz_w_at d_M_type_48]; rfl
theorem d_M_type_49 : decode c_M_type 49 = .ok (.ireturn, 1) := by decide +kernel
theorem e_M_type_49 : q_M_type S (f + 1) 49 L st h = (S 49 L st h) := by rw [q_M_type, hz_w_at d_M_type_49]; rfl
end
abbrev q_M_wipe (S : Nat → List (Option Value) → List Value → hz_H → Prop) := hz_w zCl zKT f_M n_M c_M_wipe [] S
section
variable {S : Nat → List (Option Value) → List Value → hz_H → Prop} {f : Nat} {L : List (Option Value)} {st : List Value} {h : hz_H} {x y : Int32} {i j : Nat} {X Y : Int64}
theorem d_M_wipe_0 : decode c_M_wipe 0 = .ok (.aload_n 0, 1) := by decide +kernel
theorem e_M_wipe_0 {a1 : Option Value} : q_M_wipe S (f + 1) 0 [some (.ref i), a1] st h = (q_M_wipe S f 1 [some (.ref i), a1] (.ref i :: st) h) := by rw [q_M_wipe, hz_w_at d_M_wipe_0]; rfl
theorem e_M_wipe_0n {a1 : Option Value} : q_M_wipe S (f + 1) 0 [some .null, a1] st h = (q_M_wipe S f 1 [some .null, a1] (.null :: st) h) := by rw [q_M_wipe, hz_w_at d_M_wipe_0]; rfl
theorem d_M_wipe_1 : decode c_M_wipe 1 = .ok (.iconst 0, 1) := by decide +kernel
theorem e_M_wipe_1 : q_M_wipe S (f + 1) 1 L st h = (q_M_wipe S f 2 L (.int (hz_n 0) :: st) h) := by rw [q_M_wipe, hz_w_at d_M_wipe_1]; rfl
theorem d_M_wipe_2 : decode c_M_wipe 2 = .ok (.putfield 80, 3) := by decide +kernel
theorem e_M_wipe_2 : q_M_wipe S (f + 1) 2 L (.int x :: .ref i :: st) h = (hz_wr h i 5 0 (.int x) fun h => q_M_wipe S f 5 L st h) := by rw [q_M_wipe, hz_w_at d_M_wipe_2]; rfl
theorem d_M_wipe_5 : decode c_M_wipe 5 = .ok (.aload_n 0, 1) := by decide +kernel
theorem e_M_wipe_5 {a1 : Option Value} : q_M_wipe S (f + 1) 5 [some (.ref i), a1] st h = (q_M_wipe S f 6 [some (.ref i), a1] (.ref i :: st) h) := by rw [q_M_wipe, hz_w_at d_M_wipe_5]; rfl
theorem e_M_wipe_5n {a1 : Option Value} : q_M_wipe S (f + 1) 5 [some .null, a1] st h = (q_M_wipe S f 6 [some .null, a1] (.null :: st) h) := by rw [q_M_wipe, hz_w_at d_M_wipe_5]; rfl
theorem d_M_wipe_6 : decode c_M_wipe 6 = .ok (.getfield 84, 3) := by decide +kernel
theorem e_M_wipe_6 : q_M_wipe S (f + 1) 6 L (.ref i :: st) h = (hz_rd h i 5 1 fun v => q_M_wipe S f 9 L (v :: st) h) := by rw [q_M_wipe, hz_w_at d_M_wipe_6]; rfl
theorem d_M_wipe_9 : decode c_M_wipe 9 = .ok (.istore_n 1, 1) := by decide +kernel
theorem e_M_wipe_9 {a0 a1 : Option Value} : q_M_wipe S (f + 1) 9 [a0, a1] (.int x :: st) h = (q_M_wipe S f 10 [a0, some (.int x)] st h) := by rw [q_M_wipe, hz_w_at d_M_wipe_9]; rfl
theorem d_M_wipe_10 : decode c_M_wipe 10 = .ok (.aload_n 0, 1) := by decide +kernel
theorem e_M_wipe_10 {a1 : Option Value} : q_M_wipe S (f + 1) 10 [some (.ref i), a1] st h = (q_M_wipe S f 11 [some (.ref i), a1] (.ref i :: st) h) := by rw [q_M_wipe, hz_w_at d_M_wipe_10]; rfl
theorem e_M_wipe_10n {a1 : Option Value} : q_M_wipe S (f + 1) 10 [some .null, a1] st h = (q_M_wipe S f 11 [some .null, a1] (.null :: st) h) := by rw [q_M_wipe, hz_w_at d_M_wipe_10]; rfl
theorem d_M_wipe_11 : decode c_M_wipe 11 = .ok (.iconst 0, 1) := by decide +kernel
theorem e_M_wipe_11 : q_M_wipe S (f + 1) 11 L st h = (q_M_wipe S f 12 L (.int (hz_n 0) :: st) h) := by rw [q_M_wipe, hz_w_at d_M_wipe_11]; rfl
theorem d_M_wipe_12 : decode c_M_wipe 12 = .ok (.putfield 84, 3) := by decide +kernel
theorem e_M_wipe_12 : q_M_wipe S (f + 1) 12 L (.int x :: .ref i :: st) h = (hz_wr h i 5 1 (.int x) fun h => q_M_wipe S f 15 L st h) := by rw [q_M_wipe, hz_w_at d_M_wipe_12]; rfl
theorem d_M_wipe_15 : decode c_M_wipe 15 = .ok (.iload_n 1, 1) := by decide +kernel
theorem e_M_wipe_15 {a0 : Option Value} : q_M_wipe S (f + 1) 15 [a0, some (.int x)] st h = (q_M_wipe S f 16 [a0, some (.int x)] (.int x :: st) h) := by rw [q_M_wipe, hz_w_at d_M_wipe_15]; rfl
theorem d_M_wipe_16 : decode c_M_wipe 16 = .ok (.ireturn, 1) := by decide +kernel
theorem e_M_wipe_16 : q_M_wipe S (f + 1) 16 L st h = (S 16 L st h) := by rw [q_M_wipe, hz_w_at d_M_wipe_16]; rfl
end
abbrev q_M_push (S : Nat → List (Option Value) → List Value → hz_H → Prop) := hz_w zCl zKT f_M n_M c_M_push [] S
section
variable {S : Nat → List (Option Value) → List Value → hz_H → Prop} {f : Nat} {L : List (Option Value)} {st : List Value} {h : hz_H} {x y : Int32} {i j : Nat} {X Y : Int64}
theorem d_M_push_0 : decode c_M_push 0 = .ok (.aload_n 0, 1) := by decide +kernel
theorem e_M_push_0 {a1 a2 a3 : Option Value} : q_M_push S (f + 1) 0 [some (.ref i), a1, a2, a3] st h = (q_M_push S f 1 [some (.ref i), a1, a2, a3] (.ref i :: st) h) := by rw [q_M_push, hz_w_at d_M_push_0]; rfl
theorem e_M_push_0n {a1 a2 a3 : Option Value} : q_M_push S (f + 1) 0 [some .null, a1, a2, a3] st h = (q_M_push S f 1 [some .null, a1, a2, a3] (.null :: st) h) := by rw [q_M_push, hz_w_at d_M_push_0]; rfl
theorem d_M_push_1 : decode c_M_push 1 = .ok (.getfield 38, 3) := by decide +kernel
theorem e_M_push_1 : q_M_push S (f + 1) 1 L (.ref i :: st) h = (hz_rd h i 5 14 fun v => q_M_push S f 4 L (v :: st) h) := by rw [q_M_push, hz_w_at d_M_push_1]; rfl
theorem d_M_push_4 : decode c_M_push 4 = .ok (.aload_n 0, 1) := by decide +kernel
theorem e_M_push_4 {a1 a2 a3 : Option Value} : q_M_push S (f + 1) 4 [some (.ref i), a1, a2, a3] st h = (q_M_push S f 5 [some (.ref i), a1, a2, a3] (.ref i :: st) h) := by rw [q_M_push, hz_w_at d_M_push_4]; rfl
theorem e_M_push_4n {a1 a2 a3 : Option Value} : q_M_push S (f + 1) 4 [some .null, a1, a2, a3] st h = (q_M_push S f 5 [some .null, a1, a2, a3] (.null :: st) h) := by rw [q_M_push, hz_w_at d_M_push_4]; rfl
theorem d_M_push_5 : decode c_M_push 5 = .ok (.getfield 87, 3) := by decide +kernel
theorem e_M_push_5 : q_M_push S (f + 1) 5 L (.ref i :: st) h = (hz_rd h i 5 13 fun v => q_M_push S f 8 L (v :: st) h) := by rw [q_M_push, hz_w_at d_M_push_5]; rfl
theorem d_M_push_8 : decode c_M_push 8 = .ok (.iload_n 1, 1) := by decide +kernel
theorem e_M_push_8 {a0 a2 a3 : Option Value} : q_M_push S (f + 1) 8 [a0, some (.int x), a2, a3] st h = (q_M_push S f 9 [a0, some (.int x), a2, a3] (.int x :: st) h) := by rw [q_M_push, hz_w_at d_M_push_8]; rfl
theorem d_M_push_9 : decode c_M_push 9 = .ok (.iastore, 1) := by decide +kernel
theorem e_M_push_9 : q_M_push S (f + 1) 9 L (.int y :: .int x :: .ref i :: st) h = (hz_es zKT hz_kI h i x (.int y) fun h => q_M_push S f 10 L st h) := by rw [q_M_push, hz_w_at d_M_push_9]; rfl
theorem d_M_push_10 : decode c_M_push 10 = .ok (.aload_n 0, 1) := by decide +kernel
theorem e_M_push_10 {a1 a2 a3 : Option Value} : q_M_push S (f + 1) 10 [some (.ref i), a1, a2, a3] st h = (q_M_push S f 11 [some (.ref i), a1, a2, a3] (.ref i :: st) h) := by rw [q_M_push, hz_w_at d_M_push_10]; rfl
theorem e_M_push_10n {a1 a2 a3 : Option Value} : q_M_push S (f + 1) 10 [some .null, a1, a2, a3] st h = (q_M_push S f 11 [some .null, a1, a2, a3] (.null :: st) h) := by rw [q_M_push, hz_w_at d_M_push_10]; rfl
theorem d_M_push_11 : decode c_M_push 11 = .ok (.getfield 41, 3) := by decide +kernel
theorem e_M_push_11 : q_M_push S (f + 1) 11 L (.ref i :: st) h = (hz_rd h i 5 15 fun v => q_M_push S f 14 L (v :: st) h) := by rw [q_M_push, hz_w_at d_M_push_11]; rfl
theorem d_M_push_14 : decode c_M_push 14 = .ok (.aload_n 0, 1) := by decide +kernel
theorem e_M_push_14 {a1 a2 a3 : Option Value} : q_M_push S (f + 1) 14 [some (.ref i), a1, a2, a3] st h = (q_M_push S f 15 [some (.ref i), a1, a2, a3] (.ref i :: st) h) := by rw [q_M_push, hz_w_at d_M_push_14]; rfl
theorem e_M_push_14n {a1 a2 a3 : Option Value} : q_M_push S (f + 1) 14 [some .null, a1, a2, a3] st h = (q_M_push S f 15 [some .null, a1, a2, a3] (.null :: st) h) := by rw [q_M_push, hz_w_at d_M_push_14]; rfl
theorem d_M_push_15 : decode c_M_push 15 = .ok (.getfield 87, 3) := by decide +kernel
theorem e_M_push_15 : q_M_push S (f + 1) 15 L (.ref i :: st) h = (hz_rd h i 5 13 fun v => q_M_push S f 18 L (v :: st) h) := by rw [q_M_push, hz_w_at d_M_push_15]; rfl
theorem d_M_push_18 : decode c_M_push 18 = .ok (.iload_n 2, 1) := by decide +kernel
theorem e_M_push_18 {a0 a1 a3 : Option Value} : q_M_push S (f + 1) 18 [a0, a1, some (.int x), a3] st h = (q_M_push S f 19 [a0, a1, some (.int x), a3] (.int x :: st) h) := by rw [q_M_push, hz_w_at d_M_push_18]; rfl
theorem d_M_push_19 : decode c_M_push 19 = .ok (.iastore, 1) := by decide +kernel
theorem e_M_push_19 : q_M_push S (f + 1) 19 L (.int y :: .int x :: .ref i :: st) h = (hz_es zKT hz_kI h i x (.int y) fun h => q_M_push S f 20 L st h) := by rw [q_M_push, hz_w_at d_M_push_19]; rfl
theorem d_M_push_20 : decode c_M_push 20 = .ok (.aload_n 0, 1) := by decide +kernel
theorem e_M_push_20 {a1 a2 a3 : Option Value} : q_M_push S (f + 1) 20 [some (.ref i), a1, a2, a3] st h = (q_M_push S f 21 [some (.ref i), a1, a2, a3] (.ref i :: st) h) := by rw [q_M_push, hz_w_at d_M_push_20]; rfl
theorem e_M_push_20n {a1 a2 a3 : Option Value} : q_M_push S (f + 1) 20 [some .null, a1, a2, a3] st h = (q_M_push S f 21 [some .null, a1, a2, a3] (.null :: st) h) := by rw [q_M_push, hz_w_at d_M_push_20]; rfl
theorem d_M_push_21 : decode c_M_push 21 = .ok (.getfield 44, 3) := by decide +kernel
theorem e_M_push_21 : q_M_push S (f + 1) 21 L (.ref i :: st) h = (hz_rd h i 5 16 fun v => q_M_push S f 24 L (v :: st) h) := by rw [q_M_push, hz_w_at d_M_push_21]; rfl
theorem d_M_push_24 : decode c_M_push 24 = .ok (.aload_n 0, 1) := by decide +kernel
theorem e_M_push_24 {a1 a2 a3 : Option Value} : q_M_push S (f + 1) 24 [some (.ref i), a1, a2, a3] st h = (q_M_push S f 25 [some (.ref i), a1, a2, a3] (.ref i :: st) h) := by rw [q_M_push, hz_w_at d_M_push_24]; rfl
theorem e_M_push_24n {a1 a2 a3 : Option Value} : q_M_push S (f + 1) 24 [some .null, a1, a2, a3] st h = (q_M_push S f 25 [some .null, a1, a2, a3] (.null :: st) h) := by rw [q_M_push, hz_w_at d_M_push_24]; rfl
theorem d_M_push_25 : decode c_M_push 25 = .ok (.getfield 87, 3) := by decide +kernel
theorem e_M_push_25 : q_M_push S (f + 1) 25 L (.ref i :: st) h = (hz_rd h i 5 13 fun v => q_M_push S f 28 L (v :: st) h) := by rw [q_M_push, hz_w_at d_M_push_25]; rfl
theorem d_M_push_28 : decode c_M_push 28 = .ok (.iload_n 3, 1) := by decide +kernel
theorem e_M_push_28 {a0 a1 a2 : Option Value} : q_M_push S (f + 1) 28 [a0, a1, a2, some (.int x)] st h = (q_M_push S f 29 [a0, a1, a2, some (.int x)] (.int x :: st) h) := by rw [q_M_push, hz_w_at d_M_push_28]; rfl
theorem d_M_push_29 : decode c_M_push 29 = .ok (.iastore, 1) := by decide +kernel
theorem e_M_push_29 : q_M_push S (f + 1) 29 L (.int y :: .int x :: .ref i :: st) h = (hz_es zKT hz_kI h i x (.int y) fun h => q_M_push S f 30 L st h) := by rw [q_M_push, hz_w_at d_M_push_29]; rfl
theorem d_M_push_30 : decode c_M_push 30 = .ok (.aload_n 0, 1) := by decide +kernel
theorem e_M_push_30 {a1 a2 a3 : Option Value} : q_M_push S (f + 1) 30 [some (.ref i), a1, a2, a3] st h = (q_M_push S f 31 [some (.ref i), a1, a2, a3] (.ref i :: st) h) := by rw [q_M_push, hz_w_at d_M_push_30]; rfl
theorem e_M_push_30n {a1 a2 a3 : Option Value} : q_M_push S (f + 1) 30 [some .null, a1, a2, a3] st h = (q_M_push S f 31 [some .null, a1, a2, a3] (.null :: st) h) := by rw [q_M_push, hz_w_at d_M_push_30]; rfl
theorem d_M_push_31 : decode c_M_push 31 = .ok (.dup, 1) := by decide +kernel
theorem e_M_push_31 : q_M_push S (f + 1) 31 L (.ref i :: st) h = (q_M_push S f 32 L (.ref i :: .ref i :: st) h) := by rw [q_M_push, hz_w_at d_M_push_31]; rfl
theorem e_M_push_31i : q_M_push S (f + 1) 31 L (.int x :: st) h = (q_M_push S f 32 L (.int x :: .int x :: st) h) := by rw [q_M_push, hz_w_at d_M_push_31]; rfl
theorem d_M_push_32 : decode c_M_push 32 = .ok (.getfield 87, 3) := by decide +kernel
theorem e_M_push_32 : q_M_push S (f + 1) 32 L (.ref i :: st) h = (hz_rd h i 5 13 fun v => q_M_push S f 35 L (v :: st) h) := by rw [q_M_push, hz_w_at d_M_push_32]; rfl
theorem d_M_push_35 : decode c_M_push 35 = .ok (.iconst 1, 1) := by decide +kernel
theorem e_M_push_35 : q_M_push S (f + 1) 35 L st h = (q_M_push S f 36 L (.int (hz_n 1) :: st) h) := by rw [q_M_push, hz_w_at d_M_push_35]; rfl
theorem d_M_push_36 : decode c_M_push 36 = .ok (.iadd, 1) := by decide +kernel
theorem e_M_push_36 : q_M_push S (f + 1) 36 L (.int y :: .int x :: st) h = (q_M_push S f 37 L (.int (x + y) :: st) h) := by rw [q_M_push, hz_w_at d_M_push_36]; rfl
theorem d_M_push_37 : decode c_M_push 37 = .ok (.putfield 87, 3) := by decide +kernel
theorem e_M_push_37 : q_M_push S (f + 1) 37 L (.int x :: .ref i :: st) h = (hz_wr h i 5 13 (.int x) fun h => q_M_push S f 40 L st h) := by rw [q_M_push, hz_w_at d_M_push_37]; rfl
theorem d_M_push_40 : decode c_M_push 40 = .ok (.return_, 1) := by decide +kernel
theorem e_M_push_40 : q_M_push S (f + 1) 40 L st h = (S 40 L st h) := by rw [q_M_push, hz_w_at d_M_push_40]; rfl
end
abbrev q_M_add (S : Nat → List (Option Value) → List Value → hz_H → Prop) := hz_w zCl zKT f_M n_M c_M_add [] S
section
variable {S : Nat → List (Option Value) → List Value → hz_H → Prop} {f : Nat} {L : List (Option Value)} {st : List Value} {h : hz_H} {x y : Int32} {i j : Nat} {X Y : Int64}
theorem d_M_add_0 : decode c_M_add 0 = .ok (.aload_n 0, 1) := by decide +kernel
theorem e_M_add_0 {a1 a2 a3 : Option Value} : q_M_add S (f + 1) 0 [some (.ref i), a1, a2, a3] st h = (q_M_add S f 1 [some (.ref i), a1, a2, a3] (.ref i :: st) h) := by rw [q_M_add, hz_w_at d_M_add_0]; rfl
theorem e_M_add_0n {a1 a2 a3 : Option Value} : q_M_add S (f + 1) 0 [some .null, a1, a2, a3] st h = (q_M_add S f 1 [some .null, a1, a2, a3] (.null :: st) h) := by rw [q_M_add, hz_w_at d_M_add_0]; rfl
theorem d_M_add_1 : decode c_M_add 1 = .ok (.getfield 26, 3) := by decide +kernel
theorem e_M_add_1 : q_M_add S (f + 1) 1 L (.ref i :: st) h = (hz_rd h i 5 8 fun v => q_M_add S f 4 L (v :: st) h) := by rw [q_M_add, hz_w_at d_M_add_1]; rfl
theorem d_M_add_4 : decode c_M_add 4 = .ok (.aload_n 0, 1) := by decide +kernel
theorem e_M_add_4 {a1 a2 a3 : Option Value} : q_M_add S (f + 1) 4 [some (.ref i), a1, a2, a3] st h = (q_M_add S f 5 [some (.ref i), a1, a2, a3] (.ref i :: st) h) := by rw [q_M_add, hz_w_at d_M_add_4]; rfl
theorem e_M_add_4n {a1 a2 a3 : Option Value} : q_M_add S (f + 1) 4 [some .null, a1, a2, a3] st h = (q_M_add S f 5 [some .null, a1, a2, a3] (.null :: st) h) := by rw [q_M_add, hz_w_at d_M_add_4]; rfl
theorem d_M_add_5 : decode c_M_add 5 = .ok (.getfield 90, 3) := by decide +kernel
theorem e_M_add_5 : q_M_add S (f + 1) 5 L (.ref i :: st) h = (hz_rd h i 5 12 fun v => q_M_add S f 8 L (v :: st) h) := by rw [q_M_add, hz_w_at d_M_add_5]; rfl
theorem d_M_add_8 : decode c_M_add 8 = .ok (.iload_n 1, 1) := by decide +kernel
theorem e_M_add_8 {a0 a2 a3 : Option Value} : q_M_add S (f + 1) 8 [a0, some (.int x), a2, a3] st h = (q_M_add S f 9 [a0, some (.int x), a2, a3] (.int x :: st) h) := by rw [q_M_add, hz_w_at d_M_add_8]; rfl
theorem d_M_add_9 : decode c_M_add 9 = .ok (.iastore, 1) := by decide +kernel
theorem e_M_add_9 : q_M_add S (f + 1) 9 L (.int y :: .int x :: .ref i :: st) h = (hz_es zKT hz_kI h i x (.int y) fun h => q_M_add S f 10 L st h) := by rw [q_M_add, hz_w_at d_M_add_9]; rfl
theorem d_M_add_10 : decode c_M_add 10 = .ok (.aload_n 0, 1) := by decide +kernel
theorem e_M_add_10 {a1 a2 a3 : Option Value} : q_M_add S (f + 1) 10 [some (.ref i), a1, a2, a3] st h = (q_M_add S f 11 [some (.ref i), a1, a2, a3] (.ref i :: st) h) := by rw [q_M_add, hz_w_at d_M_add_10]; rfl
theorem e_M_add_10n {a1 a2 a3 : Option Value} : q_M_add S (f + 1) 10 [some .null, a1, a2, a3] st h = (q_M_add S f 11 [some .null, a1, a2, a3] (.null :: st) h) := by rw [q_M_add, hz_w_at d_M_add_10]; rfl
theorem d_M_add_11 : decode c_M_add 11 = .ok (.getfield 29, 3) := by decide +kernel
theorem e_M_add_11 : q_M_add S (f + 1) 11 L (.ref i :: st) h = (hz_rd h i 5 9 fun v => q_M_add S f 14 L (v :: st) h) := by rw [q_M_add, hz_w_at d_M_add_11]; rfl
theorem d_M_add_14 : decode c_M_add 14 = .ok (.aload_n 0, 1) := by decide +kernel
theorem e_M_add_14 {a1 a2 a3 : Option Value} : q_M_add S (f + 1) 14 [some (.ref i), a1, a2, a3] st h = (q_M_add S f 15 [some (.ref i), a1, a2, a3] (.ref i :: st) h) := by rw [q_M_add, hz_w_at d_M_add_14]; rfl
theorem e_M_add_14n {a1 a2 a3 : Option Value} : q_M_add S (f + 1) 14 [some .null, a1, a2, a3] st h = (q_M_add S f 15 [some .null, a1, a2, a3] (.null :: st) h) := by rw [q_M_add, hz_w_at d_M_add_14]; rfl
theorem d_M_add_15 : decode c_M_add 15 = .ok (.getfield 90, 3) := by decide +kernel
theorem e_M_add_15 : q_M_add S (f + 1) 15 L (.ref i :: st) h = (hz_rd h i 5 12 fun v => q_M_add S f 18 L (v :: st) h) := by rw [q_M_add, hz_w_at d_M_add_15]; rfl
theorem d_M_add_18 : decode c_M_add 18 = .ok (.iload_n 2, 1) := by decide +kernel
theorem e_M_add_18 {a0 a1 a3 : Option Value} : q_M_add S (f + 1) 18 [a0, a1, some (.int x), a3] st h = (q_M_add S f 19 [a0, a1, some (.int x), a3] (.int x :: st) h) := by rw [q_M_add, hz_w_at d_M_add_18]; rfl
theorem d_M_add_19 : decode c_M_add 19 = .ok (.iastore, 1) := by decide +kernel
theorem e_M_add_19 : q_M_add S (f + 1) 19 L (.int y :: .int x :: .ref i :: st) h = (hz_es zKT hz_kI h i x (.int y) fun h => q_M_add S f 20 L st h) := by rw [q_M_add, hz_w_at d_M_add_19]; rfl
theorem d_M_add_20 : decode c_M_add 20 = .ok (.aload_n 0, 1) := by decide +kernel
theorem e_M_add_20 {a1 a2 a3 : Option Value} : q_M_add S (f + 1) 20 [some (.ref i), a1, a2, a3] st h = (q_M_add S f 21 [some (.ref i), a1, a2, a3] (.ref i :: st) h) := by rw [q_M_add, hz_w_at d_M_add_20]; rfl
theorem e_M_add_20n {a1 a2 a3 : Option Value} : q_M_add S (f + 1) 20 [some .null, a1, a2, a3] st h = (q_M_add S f 21 [some .null, a1, a2, a3] (.null :: st) h) := by rw [q_M_add, hz_w_at d_M_add_20]; rfl
theorem d_M_add_21 : decode c_M_add 21 = .ok (.getfield 32, 3) := by decide +kernel
theorem e_M_add_21 : q_M_add S (f + 1) 21 L (.ref i :: st) h = (hz_rd h i 5 10 fun v => q_M_add S f 24 L (v :: st) h) := by rw [q_M_add, hz_w_at d_M_add_21]; rfl
theorem d_M_add_24 : decode c_M_add 24 = .ok (.aload_n 0, 1) := by decide +kernel
theorem e_M_add_24 {a1 a2 a3 : Option Value} : q_M_add S (f + 1) 24 [some (.ref i), a1, a2, a3] st h = (q_M_add S f 25 [some (.ref i), a1, a2, a3] (.ref i :: st) h) := by rw [q_M_add, hz_w_at d_M_add_24]; rfl
theorem e_M_add_24n {a1 a2 a3 : Option Value} : q_M_add S (f + 1) 24 [some .null, a1, a2, a3] st h = (q_M_add S f 25 [some .null, a1, a2, a3] (.null :: st) h) := by rw [q_M_add, hz_w_at d_M_add_24]; rfl
theorem d_M_add_25 : decode c_M_add 25 = .ok (.getfield 90, 3) := by decide +kernel
theorem e_M_add_25 : q_M_add S (f + 1) 25 L (.ref i :: st) h = (hz_rd h i 5 12 fun v => q_M_add S f 28 L (v :: st) h) := by rw [q_M_add, hz_w_at d_M_add_25]; rfl
theorem d_M_add_28 : decode c_M_add 28 = .ok (.iconst 0, 1) := by decide +kernel
theorem e_M_add_28 : q_M_add S (f + 1) 28 L st h = (q_M_add S f 29 L (.int (hz_n 0) :: st) h) := by rw [q_M_add, hz_w_at d_M_add_28]; rfl
theorem d_M_add_29 : decode c_M_add 29 = .ok (.iastore, 1) := by decide +kernel
theorem e_M_add_29 : q_M_add S (f + 1) 29 L (.int y :: .int x :: .ref i :: st) h = (hz_es zKT hz_kI h i x (.int y) fun h => q_M_add S f 30 L st h) := by rw [q_M_add, hz_w_at d_M_add_29]; rfl
theorem d_M_add_30 : decode c_M_add 30 = .ok (.aload_n 0, 1) := by decide +kernel
theorem e_M_add_30 {a1 a2 a3 : Option Value} : q_M_add S (f + 1) 30 [some (.ref i), a1, a2, a3] st h = (q_M_add S f 31 [some (.ref i), a1, a2, a3] (.ref i :: st) h) := by rw [q_M_add, hz_w_at d_M_add_30]; rfl
theorem e_M_add_30n {a1 a2 a3 : Option Value} : q_M_add S (f + 1) 30 [some .null, a1, a2, a3] st h = (q_M_add S f 31 [some .null, a1, a2, a3] (.null :: st) h) := by rw [q_M_add, hz_w_at d_M_add_30]; rfl
theorem d_M_add_31 : decode c_M_add 31 = .ok (.getfield 35, 3) := by decide +kernel
theorem e_M_add_31 : q_M_add S (f + 1) 31 L (.ref i :: st) h = (hz_rd h i 5 11 fun v => q_M_add S f 34 L (v :: st) h) := by rw [q_M_add, hz_w_at d_M_add_31]; rfl
theorem d_M_add_34 : decode c_M_add 34 = .ok (.aload_n 0, 1) := by decide +kernel
theorem e_M_add_34 {a1 a2 a3 : Option Value} : q_M_add S (f + 1) 34 [some (.ref i), a1, a2, a3] st h = (q_M_add S f 35 [some (.ref i), a1, a2, a3] (.ref i :: st) h) := by rw [q_M_add, hz_w_at d_M_add_34]; rfl
theorem e_M_add_34n {a1 a2 a3 : Option Value} : q_M_add S (f + 1) 34 [some .null, a1, a2, a3] st h = (q_M_add S f 35 [some .null, a1, a2, a3] (.null :: st) h) := by rw [q_M_add, hz_w_at d_M_add_34]; rfl
theorem d_M_add_35 : decode c_M_add 35 = .ok (.getfield 90, 3) := by decide +kernel
theorem e_M_add_35 : q_M_add S (f + 1) 35 L (.ref i :: st) h = (hz_rd h i 5 12 fun v => q_M_add S f 38 L (v :: st) h) := by rw [q_M_add, hz_w_at d_M_add_35]; rfl
theorem d_M_add_38 : decode c_M_add 38 = .ok (.sipush 1040, 3) := by decide +kernel
theorem e_M_add_38 : q_M_add S (f + 1) 38 L st h = (q_M_add S f 41 L (.int (hz_n 1040) :: st) h) := by rw [q_M_add, hz_w_at d_M_add_38]; rfl
theorem d_M_add_41 : decode c_M_add 41 = .ok (.isub, 1) := by decide +kernel
theorem e_M_add_41 : q_M_add S (f + 1) 41 L (.int y :: .int x :: st) h = (q_M_add S f 42 L (.int (x - y) :: st) h) := by rw [q_M_add, hz_w_at d_M_add_41]; rfl
theorem d_M_add_42 : decode c_M_add 42 = .ok (.iload_n 3, 1) := by decide +kernel
theorem e_M_add_42 {a0 a1 a2 : Option Value} : q_M_add S (f + 1) 42 [a0, a1, a2, some (.int x)] st h = (q_M_add S f 43 [a0, a1, a2, some (.int x)] (.int x :: st) h) := by rw [q_M_add, hz_w_at d_M_add_42]; rfl
theorem d_M_add_43 : decode c_M_add 43 = .ok (.iastore, 1) := by decide +kernel
theorem e_M_add_43 : q_M_add S (f + 1) 43 L (.int y :: .int x :: .ref i :: st) h = (hz_es zKT hz_kI h i x (.int y) fun h => q_M_add S f 44 L st h) := by rw [q_M_add, hz_w_at d_M_add_43]; rfl
theorem d_M_add_44 : decode c_M_add 44 = .ok (.aload_n 0, 1) := by decide +kernel
theorem e_M_add_44 {a1 a2 a3 : Option Value} : q_M_add S (f + 1) 44 [some (.ref i), a1, a2, a3] st h = (q_M_add S f 45 [some (.ref i), a1, a2, a3] (.ref i :: st) h) := by rw [q_M_add, hz_w_at d_M_add_44]; rfl
theorem e_M_add_44n {a1 a2 a3 : Option Value} : q_M_add S (f + 1) 44 [some .null, a1, a2, a3] st h = (q_M_add S f 45 [some .null, a1, a2, a3] (.null :: st) h) := by rw [q_M_add, hz_w_at d_M_add_44]; rfl
theorem d_M_add_45 : decode c_M_add 45 = .ok (.dup, 1) := by decide +kernel
theorem e_M_add_45 : q_M_add S (f + 1) 45 L (.ref i :: st) h = (q_M_add S f 46 L (.ref i :: .ref i :: st) h) := by rw [q_M_add, hz_w_at d_M_add_45]; rfl
theorem e_M_add_45i : q_M_add S (f + 1) 45 L (.int x :: st) h = (q_M_add S f 46 L (.int x :: .int x :: st) h) := by rw [q_M_add, hz_w_at d_M_add_45]; rfl
theorem d_M_add_46 : decode c_M_add 46 = .ok (.getfield 90, 3) := by decide +kernel
theorem e_M_add_46 : q_M_add S (f + 1) 46 L (.ref i :: st) h = (hz_rd h i 5 12 fun v => q_M_add S f 49 L (v :: st) h) := by rw [q_M_add, hz_w_at d_M_add_46]; rfl
theorem d_M_add_49 : decode c_M_add 49 = .ok (.iconst 1, 1) := by decide +kernel
theorem e_M_add_49 : q_M_add S (f + 1) 49 L st h = (q_M_add S f 50 L (.int (hz_n 1) :: st) h) := by rw [q_M_add, hz_w_at d_M_add_49]; rfl
theorem d_M_add_50 : decode c_M_add 50 = .ok (.iadd, 1) := by decide +kernel
theorem e_M_add_50 : q_M_add S (f + 1) 50 L (.int y :: .int x :: st) h = (q_M_add S f 51 L (.int (x + y) :: st) h) := by rw [q_M_add, hz_w_at d_M_add_50]; rfl
theorem d_M_add_51 : decode c_M_add 51 = .ok (.putfield 90, 3) := by decide +kernel
theorem e_M_add_51 : q_M_add S (f + 1) 51 L (.int x :: .ref i :: st) h = (hz_wr h i 5 12 (.int x) fun h => q_M_add S f 54 L st h) := by rw [q_M_add, hz_w_at d_M_add_51]; rfl
theorem d_M_add_54 : decode c_M_add 54 = .ok (.aload_n 0, 1) := by decide +kernel
theorem e_M_add_54 {a1 a2 a3 : Option Value} : q_M_add S (f + 1) 54 [some (.ref i), a1, a2, a3] st h = (q_M_add S f 55 [some (.ref i), a1, a2, a3] (.ref i :: st) h) := by rw [q_M_add, hz_w_at d_M_add_54]; rfl
theorem e_M_add_54n {a1 a2 a3 : Option Value} : q_M_add S (f + 1) 54 [some .null, a1, a2, a3] st h = (q_M_add S f 55 [some .null, a1, a2, a3] (.null :: st) h) := by rw [q_M_add, hz_w_at d_M_add_54]; rfl
theorem d_M_add_55 : decode c_M_add 55 = .ok (.getfield 90, 3) := by decide +kernel
theorem e_M_add_55 : q_M_add S (f + 1) 55 L (.ref i :: st) h = (hz_rd h i 5 12 fun v => q_M_add S f 58 L (v :: st) h) := by rw [q_M_add, hz_w_at d_M_add_55]; rfl
theorem d_M_add_58 : decode c_M_add 58 = .ok (.iconst 1, 1) := by decide +kernel
theorem e_M_add_58 : q_M_add S (f + 1) 58 L st h = (q_M_add S f 59 L (.int (hz_n 1) :: st) h) := by rw [q_M_add, hz_w_at d_M_add_58]; rfl
theorem d_M_add_59 : decode c_M_add 59 = .ok (.isub, 1) := by decide +kernel
theorem e_M_add_59 : q_M_add S (f + 1) 59 L (.int y :: .int x :: st) h = (q_M_add S f 60 L (.int (x - y) :: st) h) := by rw [q_M_add, hz_w_at d_M_add_59]; rfl
theorem d_M_add_60 : decode c_M_add 60 = .ok (.ireturn, 1) := by decide +kernel
theorem e_M_add_60 : q_M_add S (f + 1) 60 L st h = (S 60 L st h) := by rw [q_M_add, hz_w_at d_M_add_60]; rfl
end
abbrev q_M_pushExpressions (S : Nat → List (Option Value) → List Value → hz_H → Prop) := hz_w zCl zKT f_M n_M c_M_pushExpressions [2] S
section
variable {S : Nat → List (Option Value) → List Value → hz_H → Prop} {f : Nat} {L : List (Option Value)} {st : List Value} {h : hz_H} {x y : Int32} {i j : Nat} {X Y : Int64}
theorem d_M_pushExpressions_0 : decode c_M_pushExpressions 0 = .ok (.iconst 0, 1) := by decide +kernel
theorem e_M_pushExpressions_0 : q_M_pushExpressions S (f + 1) 0 L st h = (q_M_pushExpressions S f 1 L (.int (hz_n 0) :: st) h) := by rw [q_M_pushExpressions, hz_w_at d_M_pushExpressions_0]; rfl
theorem d_M_pushExpressions_1 : decode c_M_pushExpressions 1 = .ok (.istore_n 3, 1) := by decide +kernel
theorem e_M_pushExpressions_1 {a0 a1 a2 a3 : Option Value} : q_M_pushExpressions S (f + 1) 1 [a0, a1, a2, a3] (.int x :: st) h = (S 2 [a0, a1, a2, some (.int x)] st h) := by rw [q_M_pushExpressions, hz_w_at d_M_pushExpressions_1]; rfl
theorem d_M_pushExpressions_2 : decode c_M_pushExpressions 2 = .ok (.iload_n 3, 1) := by decide +kernel
theorem e_M_pushExpressions_2 {a0 a1 a2 : Option Value} : q_M_pushExpressions S (f + 1) 2 [a0, a1, a2, some (.int x)] st h = (q_M_pushExpressions S f 3 [a0, a1, a2, some (.int x)] (.int x :: st) h) := by rw [q_M_pushExpressions, hz_w_at d_M_pushExpressions_2]; rfl
theorem d_M_pushExpressions_3 : decode c_M_pushExpressions 3 = .ok (.iload_n 1, 1) := by decide +kernel
theorem e_M_pushExpressions_3 {a0 a2 a3 : Option Value} : q_M_pushExpressions S (f + 1) 3 [a0, some (.int x), a2, a3] st h = (q_M_pushExpressions S f 4 [a0, some (.int x), a2, a3] (.int x :: st) h) := by rw [q_M_pushExpressions, hz_w_at d_M_pushExpressions_3]; rfl
theorem d_M_pushExpressions_4 : decode c_M_pushExpressions 4 = .ok (.if_icmp .ge 16, 3) := by decide +kernel
theorem e_M_pushExpressions_4 : q_M_pushExpressions S (f + 1) 4 L (.int y :: .int x :: st) h = ((y.toInt ≤ x.toInt → q_M_pushExpressions S f 20 L st h) ∧ (¬ (y.toInt ≤ x.toInt) → q_M_pushExpressions S f 7 L st h)) := by rw [q_M_pushExpressions, hz_w_at d_M_pushExpressions_4]; rfl
theorem d_M_pushExpressions_7 : decode c_M_pushExpressions 7 = .ok (.aload_n 0, 1) := by decide +kernel
theorem e_M_pushExpressions_7 {a1 a2 a3 : Option Value} : q_M_pushExpressions S (f + 1) 7 [some (.ref i), a1, a2, a3] st h = (q_M_pushExpressions S f 8 [some (.ref i), a1, a2, a3] (.ref i :: st) h) := by rw [q_M_pushExpressions, hz_w_at d_M_pushExpressions_7]; rfl
theorem e_M_pushExpressions_7n {a1 a2 a3 : Option Value} : q_M_pushExpressions S (f + 1) 7 [some .null, a1, a2, a3] st h = (q_M_pushExpressions S f 8 [some .null, a1, a2, a3] (.null :: st) h) := by rw [q_M_pushExpressions, hz_w_at d_M_pushExpressions_7]; rfl
theorem d_M_pushExpressions_8 : decode c_M_pushExpressions 8 = .ok (.iconst 2, 1) := by decide +kernel
theorem e_M_pushExpressions_8 : q_M_pushExpressions S (f + 1) 8 L st h = (q_M_pushExpressions S f 9 L (.int (hz_n 2) :: st) h) := by rw [q_M_pushExpressions, hz_w_at d_M_pushExpressions_8]; rfl
theorem d_M_pushExpressions_9 : decode c_M_pushExpressions 9 = .ok (.iconst 0, 1) := by decide +kernel
theorem e_M_pushExpressions_9 : q_M_pushExpressions S (f + 1) 9 L st h = (q_M_pushExpressions S f 10 L (.int (hz_n 0) :: st) h) := by rw [q_M_pushExpressions, hz_w_at d_M_pushExpressions_9]; rfl
theorem d_M_pushExpressions_10 : decode c_M_pushExpressions 10 = .ok (.iload_n 2, 1) := by decide +kernel
theorem e_M_pushExpressions_10 {a0 a1 a3 : Option Value} : q_M_pushExpressions S (f + 1) 10 [a0, a1, some (.int x), a3] st h = (q_M_pushExpressions S f 11 [a0, a1, some (.int x), a3] (.int x :: st) h) := by rw [q_M_pushExpressions, hz_w_at d_M_pushExpressions_10]; rfl
theorem d_M_pushExpressions_11 : decode c_M_pushExpressions 11 = .ok (.invokevirtual 93, 3) := by decide +kernel
theorem e_M_pushExpressions_11 : q_M_pushExpressions S (f + 1) 11 L st h = (S 11 L st h) := by rw [q_M_pushExpressions, hz_w_at d_M_pushExpressions_11]; rfl
theorem d_M_pushExpressions_14 : decode c_M_pushExpressions 14 = .ok (.iinc 3 1, 3) := by decide +kernel
theorem e_M_pushExpressions_14 {a0 a1 a2 : Option Value} : q_M_pushExpressions S (f + 1) 14 [a0, a1, a2, some (.int x)] st h = (q_M_pushExpressions S f 17 [a0, a1, a2, some (.int (x + hz_n 1))] st h) := by rw [q_M_pushExpressions, hz_w_at d_M_pushExpressions_14]; rfl
theorem d_M_pushExpressions_17 : decode c_M_pushExpressions 17 = .ok (.goto (-15), 3) := by decide +kernel
theorem e_M_pushExpressions_17 : q_M_pushExpressions S (f + 1) 17 L st h = (S 2 L st h) := by rw [q_M_pushExpressions, hz_w_at d_M_pushExpressions_17]; rfl
theorem d_M_pushExpressions_20 : decode c_M_pushExpressions 20 = .ok (.return_, 1) := by decide +kernel
theorem e_M_pushExpressions_20 : q_M_pushExpressions S (f + 1) 20 L st h = (S 20 L st h) := by rw [q_M_pushExpressions, hz_w_at d_M_pushExpressions_20]; rfl
end
abbrev q_M_isOperator (S : Nat → List (Option Value) → List Value → hz_H → Prop) := hz_w zCl zKT f_M n_M c_M_isOperator [] S
section
variable {S : Nat → List (Option Value) → List Value → hz_H → Prop} {f : Nat} {L : List (Option Value)} {st : List Value} {h : hz_H} {x y : Int32} {i j : Nat} {X Y : Int64}
theorem d_M_isOperator_0 : decode c_M_isOperator 0 = .ok (.iload_n 0, 1) := by decide +kernel
theorem e_M_isOperator_0 : q_M_isOperator S (f + 1) 0 [some (.int x)] st h = (q_M_isOperator S f 1 [some (.int x)] (.int x :: st) h) := by rw [q_M_isOperator, hz_w_at d_M_isOperator_0]; rfl
theorem d_M_isOperator_1 : decode c_M_isOperator 1 = .ok (.bipush 43, 2) := by decide +kernel
theorem e_M_isOperator_1 : q_M_isOperator S (f + 1) 1 L st h = (q_M_isOperator S f 3 L (.int (hz_n 43) :: st) h) := by rw [q_M_isOperator, hz_w_at d_M_isOperator_1]; rfl
theorem d_M_isOperator_3 : decode c_M_isOperator 3 = .ok (.if_icmp .eq 27, 3) := by decide +kernel
theorem e_M_isOperator_3 : q_M_isOperator S (f + 1) 3 L (.int y :: .int x :: st) h = ((x.toInt = y.toInt → q_M_isOperator S f 30 L st h) ∧ (¬ (x.toInt = y.toInt) → q_M_isOperator S f 6 L st h)) := by rw [q_M_isOperator, hz_w_at d_M_isOperator_3]; rfl
theorem d_M_isOperator_6 : decode c_M_isOperator 6 = .ok (.iload_n 0, 1) := by decide +kernel
theorem e_M_isOperator_6 : q_M_isOperator S (f + 1) 6 [some (.int x)] st h = (q_M_isOperator S f 7 [some (.int x)] (.int x :: st) h) := by rw [q_M_isOperator, hz_w_at d_M_isOperator_6]; rfl
theorem d_M_isOperator_7 : decode c_M_isOperator 7 = .ok (.bipush 45, 2) := by decide +kernel
theorem e_M_isOperator_7 : q_M_isOperator S (f + 1) 7 L st h = (q_M_isOperator S f 9 L (.int (hz_n 45) :: st) h) := by rw [q_M_isOperator, hz_w_at d_M_isOperator_7]; rfl
theorem d_M_isOperator_9 : decode c_M_isOperator 9 = .ok (.if_icmp .eq 21, 3) := by decide +kernel
theorem e_M_isOperator_9 : q_M_isOperator S (f + 1) 9 L (.int y :: .int x :: st) h = ((x.toInt = y.toInt → q_M_isOperator S f 30 L st h) ∧ (¬ (x.toInt = y.toInt) → q_M_isOperator S f 12 L st h)) := by rw [q_M_isOperator, hz_w_at d_M_isOperator_9]; rfl
theorem d_M_isOperator_12 : decode c_M_isOperator 12 = .ok (.iload_n 0, 1) := by decide +kernel
theorem e_M_isOperator_12 : q_M_isOperator S (f + 1) 12 [some (.int x)] st h = (q_M_isOperator S f 13 [some (.int x)] (.int x :: st) h) := by rw [q_M_isOperator, hz_w_at d_M_isOperator_12]; rfl
theorem d_M_isOperator_13 : decode c_M_isOperator 13 = .ok (.bipush 42, 2) := by decide +kernel
theorem e_M_isOperator_13 : q_M_isOperator S (f + 1) 13 L st h = (q_M_isOperator S f 15 L (.int (hz_n 42) :: st) h) := by rw [q_M_isOperator, hz_w_at d_M_isOperator_13]; rfl
theorem d_M_isOperator_15 : decode c_M_isOperator 15 = .ok (.if_icmp .eq 15, 3) := by decide +kernel
theorem e_M_isOperator_15 : q_M_isOperator S (f + 1) 15 L (.int y :: .int x :: st) h = ((x.toInt = y.toInt → q_M_isOperator S f 30 L st h) ∧ (¬ (x.toInt = y.toInt) → q_M_isOperator S f 18 L st h)) := by rw [q_M_isOperator, hz_w_at d_M_isOperator_15]; rfl
theorem d_M_isOperator_18 : decode c_M_isOperator 18 = .ok (.iload_n 0, 1) := by decide +kernel
theorem e_M_isOperator_18 : q_M_isOperator S (f + 1) 18 [some (.int x)] st h = (q_M_isOperator S f 19 [some (.int x)] (.int x :: st) h) := by rw [q_M_isOperator, hz_w_at d_M_isOperator_18]; rfl
theorem d_M_isOperator_19 : decode c_M_isOperator 19 = .ok (.bipush 60, 2) := by decide +kernel
theorem e_M_isOperator_19 : q_M_isOperator S (f + 1) 19 L st h = (q_M_isOperator S f 21 L (.int (hz_n 60) :: st) h) := by rw [q_M_isOperator, hz_w_at d_M_isOperator_19]; rfl
theorem d_M_isOperator_21 : decode c_M_isOperator 21 = .ok (.if_icmp .eq 9, 3) := by decide +kernel
theorem e_M_isOperator_21 : q_M_isOperator S (f + 1) 21 L (.int y :: .int x :: st) h = ((x.toInt = y.toInt → q_M_isOperator S f 30 L st h) ∧ (¬ (x.toInt = y.toInt) → q_M_isOperator S f 24 L st h)) := by rw [q_M_isOperator, hz_w_at d_M_isOperator_21]; rfl
theorem d_M_isOperator_24 : decode c_M_isOperator 24 = .ok (.iload_n 0, 1) := by decide +kernel
theorem e_M_isOperator_24 : q_M_isOperator S (f + 1) 24 [some (.int x)] st h = (q_M_isOperator S f 25 [some (.int x)] (.int x :: st) h) := by rw [q_M_isOperator, hz_w_at d_M_isOperator_24]; rfl
theorem d_M_isOperator_25 : decode c_M_isOperator 25 = .ok (.bipush 61, 2) := by decide +kernel
theorem e_M_isOperator_25 : q_M_isOperator S (f + 1) 25 L st h = (q_M_isOperator S f 27 L (.int (hz_n 61) :: st) h) := by rw [q_M_isOperator, hz_w_at d_M_isOperator_25]; rfl
theorem d_M_isOperator_27 : decode c_M_isOperator 27 = .ok (.if_icmp .ne 7, 3) := by decide +kernel
theorem e_M_isOperator_27 : q_M_isOperator S (f + 1) 27 L (.int y :: .int x :: st) h = ((¬ x.toInt = y.toInt → q_M_isOperator S f 34 L st h) ∧ (¬ (¬ x.toInt = y.toInt) → q_M_isOperator S f 30 L st h)) := by rw [q_M_isOperator, hz_w_at d_M_isOperator_27]; rfl
theorem d_M_isOperator_30 : decode c_M_isOperator 30 = .ok (.iconst 1, 1) := by decide +kernel
theorem e_M_isOperator_30 : q_M_isOperator S (f + 1) 30 L st h = (q_M_isOperator S f 31 L (.int (hz_n 1) :: st) h) := by rw [q_M_isOperator, hz_w_at d_M_isOperator_30]; rfl
theorem d_M_isOperator_31 : decode c_M_isOperator 31 = .ok (.goto 4, 3) := by decide +kernel
theorem e_M_isOperator_31 : q_M_isOperator S (f + 1) 31 L st h = (q_M_isOperator S f 35 L st h) := by rw [q_M_isOperator, hz_w_at d_M_isOperator_31]; rfl
theorem d_M_isOperator_34 : decode c_M_isOperator 34 = .ok (.iconst 0, 1) := by decide +kernel
theorem e_M_isOperator_34 : q_M_isOperator S (f + 1) 34 L st h = (q_M_isOperator S f 35 L (.int (hz_n 0) :: st) h) := by rw [q_M_isOperator, hz_w_at d_M_isOperator_34]; rfl
theorem d_M_isOperator_35 : decode c_M_isOperator 35 = .ok (.ireturn, 1) := by decide +kernel
theorem e_M_isOperator_35 : q_M_isOperator S (f + 1) 35 L st h = (S 35 L st h) := by rw [q_M_isOperator, hz_w_at d_M_isOperator_35]; rfl
end
abbrev q_M_begin (S : Nat → List (Option Value) → List Value → hz_H → Prop) := hz_w zCl zKT f_M n_M c_M_begin [] S
section
variable {S : Nat → List (Option Value) → List Value → hz_H → Prop} {f : Nat} {L : List (Option Value)} {st : List Value} {h : hz_H} {x y : Int32} {i j : Nat} {X Y : Int64}
theorem d_M_begin_0 : decode c_M_begin 0 = .ok (.iload_n 1, 1) := by decide +kernel
theorem e_M_begin_0 {a0 a2 a3 a4 a5 : Option Value} : q_M_begin S (f + 1) 0 [a0, some (.int x), a2, a3, a4, a5] st h = (q_M_begin S f 1 [a0, some (.int x), a2, a3, a4, a5] (.int x :: st) h) := by rw [q_M_begin, hz_w_at d_M_begin_0]; rfl
theorem d_M_begin_1 : decode c_M_begin 1 = .ok (.bipush 48, 2) := by decide +kernel
theorem e_M_begin_1 : q_M_begin S (f + 1) 1 L st h = (q_M_begin S f 3 L (.int (hz_n 48) :: st) h) := by rw [q_M_begin, hz_w_at d_M_begin_1]; rfl
theorem d_M_begin_3 : decode c_M_begin 3 = .ok (.if_icmp .lt 13, 3) := by decide +kernel
theorem e_M_begin_3 : q_M_begin S (f + 1) 3 L (.int y :: .int x :: st) h = ((x.toInt < y.toInt → q_M_begin S f 16 L st h) ∧ (¬ (x.toInt < y.toInt) → q_M_begin S f 6 L st h)) := by rw [q_M_begin, hz_w_at d_M_begin_3]; rfl
theorem d_M_begin_6 : decode c_M_begin 6 = .ok (.iload_n 1, 1) := by decide +kernel
theorem e_M_begin_6 {a0 a2 a3 a4 a5 : Option Value} : q_M_begin S (f + 1) 6 [a0, some (.int x), a2, a3, a4, a5] st h = (q_M_begin S f 7 [a0, some (.int x), a2, a3, a4, a5] (.int x :: st) h) := by rw [q_M_begin, hz_w_at d_M_begin_6]; rfl
theorem d_M_begin_7 : decode c_M_begin 7 = .ok (.bipush 57, 2) := by decide +kernel
theorem e_M_begin_7 : q_M_begin S (f + 1) 7 L st h = (q_M_begin S f 9 L (.int (hz_n 57) :: st) h) := by rw [q_M_begin, hz_w_at d_M_begin_7]; rfl
theorem d_M_begin_9 : decode c_M_begin 9 = .ok (.if_icmp .gt 7, 3) := by decide +kernel
theorem e_M_begin_9 : q_M_begin S (f + 1) 9 L (.int y :: .int x :: st) h = ((y.toInt < x.toInt → q_M_begin S f 16 L st h) ∧ (¬ (y.toInt < x.toInt) → q_M_begin S f 12 L st h)) := by rw [q_M_begin, hz_w_at d_M_begin_9]; rfl
theorem d_M_begin_12 : decode c_M_begin 12 = .ok (.iconst 1, 1) := by decide +kernel
theorem e_M_begin_12 : q_M_begin S (f + 1) 12 L st h = (q_M_begin S f 13 L (.int (hz_n 1) :: st) h) := by rw [q_M_begin, hz_w_at d_M_begin_12]; rfl
theorem d_M_begin_13 : decode c_M_begin 13 = .ok (.goto 4, 3) := by decide +kernel
theorem e_M_begin_13 : q_M_begin S (f + 1) 13 L st h = (q_M_begin S f 17 L st h) := by rw [q_M_begin, hz_w_at d_M_begin_13]; rfl
theorem d_M_begin_16 : decode c_M_begin 16 = .ok (.iconst 0, 1) := by decide +kernel
theorem e_M_begin_16 : q_M_begin S (f + 1) 16 L st h = (q_M_begin S f 17 L (.int (hz_n 0) :: st) h) := by rw [q_M_begin, hz_w_at d_M_begin_16]; rfl
theorem d_M_begin_17 : decode c_M_begin 17 = .ok (.istore 4, 2) := by decide +kernel
theorem e_M_begin_17 {a0 a1 a2 a3 a4 a5 : Option Value} : q_M_begin S (f + 1) 17 [a0, a1, a2, a3, a4, a5] (.int x :: st) h = (q_M_begin S f 19 [a0, a1, a2, a3, some (.int x), a5] st h) := by rw [q_M_begin, hz_w_at d_M_begin_17]; rfl
theorem d_M_begin_19 : decode c_M_begin 19 = .ok (.iload_n 1, 1) := by decide +kernel
theorem e_M_begin_19 {a0 a2 a3 a4 a5 : Option Value} : q_M_begin S (f + 1) 19 [a0, some (.int x), a2, a3, a4, a5] st h = (q_M_begin S f 20 [a0, some (.int x), a2, a3, a4, a5] (.int x :: st) h) := by rw [q_M_begin, hz_w_at d_M_begin_19]; rfl
theorem d_M_begin_20 : decode c_M_begin 20 = .ok (.invokestatic 97, 3) := by decide +kernel
theorem e_M_begin_20 : q_M_begin S (f + 1) 20 L st h = (S 20 L st h) := by rw [q_M_begin, hz_w_at d_M_begin_20]; rfl
theorem d_M_begin_23 : decode c_M_begin 23 = .ok (.ifCond .ne 21, 3) := by decide +kernel
theorem e_M_begin_23 : q_M_begin S (f + 1) 23 L (.int x :: st) h = ((¬ x.toInt = 0 → q_M_begin S f 44 L st h) ∧ (¬ (¬ x.toInt = 0) → q_M_begin S f 26 L st h)) := by rw [q_M_begin, hz_w_at d_M_begin_23]; rfl
theorem d_M_begin_26 : decode c_M_begin 26 = .ok (.iload_n 1, 1) := by decide +kernel
theorem e_M_begin_26 {a0 a2 a3 a4 a5 : Option Value} : q_M_begin S (f + 1) 26 [a0, some (.int x), a2, a3, a4, a5] st h = (q_M_begin S f 27 [a0, some (.int x), a2, a3, a4, a5] (.int x :: st) h) := by rw [q_M_begin, hz_w_at d_M_begin_26]; rfl
theorem d_M_begin_27 : decode c_M_begin 27 = .ok (.invokestatic 101, 3) := by decide +kernel
theorem e_M_begin_27 : q_M_begin S (f + 1) 27 L st h = (S 27 L st h) := by rw [q_M_begin, hz_w_at d_M_begin_27]; rfl
theorem d_M_begin_30 : decode c_M_begin 30 = .ok (.ifCond .ne 14, 3) := by decide +kernel
theorem e_M_begin_30 : q_M_begin S (f + 1) 30 L (.int x :: st) h = ((¬ x.toInt = 0 → q_M_begin S f 44 L st h) ∧ (¬ (¬ x.toInt = 0) → q_M_begin S f 33 L st h)) := by rw [q_M_begin, hz_w_at d_M_begin_30]; rfl
theorem d_M_begin_33 : decode c_M_begin 33 = .ok (.iload 4, 2) := by decide +kernel
theorem e_M_begin_33 {a0 a1 a2 a3 a5 : Option Value} : q_M_begin S (f + 1) 33 [a0, a1, a2, a3, some (.int x), a5] st h = (q_M_begin S f 35 [a0, a1, a2, a3, some (.int x), a5] (.int x :: st) h) := by rw [q_M_begin, hz_w_at d_M_begin_33]; rfl
theorem d_M_begin_35 : decode c_M_begin 35 = .ok (.ifCond .ne 9, 3) := by decide +kernel
theorem e_M_begin_35 : q_M_begin S (f + 1) 35 L (.int x :: st) h = ((¬ x.toInt = 0 → q_M_begin S f 44 L st h) ∧ (¬ (¬ x.toInt = 0) → q_M_begin S f 38 L st h)) := by rw [q_M_begin, hz_w_at d_M_begin_35]; rfl
theorem d_M_begin_38 : decode c_M_begin 38 = .ok (.iload_n 1, 1) := by decide +kernel
theorem e_M_begin_38 {a0 a2 a3 a4 a5 : Option Value} : q_M_begin S (f + 1) 38 [a0, some (.int x), a2, a3, a4, a5] st h = (q_M_begin S f 39 [a0, some (.int x), a2, a3, a4, a5] (.int x :: st) h) := by rw [q_M_begin, hz_w_at d_M_begin_38]; rfl
theorem d_M_begin_39 : decode c_M_begin 39 = .ok (.bipush 126, 2) := by decide +kernel
theorem e_M_begin_39 : q_M_begin S (f + 1) 39 L st h = (q_M_begin S f 41 L (.int (hz_n 126) :: st) h) := by rw [q_M_begin, hz_w_at d_M_begin_39]; rfl
theorem d_M_begin_41 : decode c_M_begin 41 = .ok (.if_icmp .ne 79, 3) := by decide +kernel
theorem e_M_begin_41 : q_M_begin S (f + 1) 41 L (.int y :: .int x :: st) h = ((¬ x.toInt = y.toInt → q_M_begin S f 120 L st h) ∧ (¬ (¬ x.toInt = y.toInt) → q_M_begin S f 44 L st h)) := by rw [q_M_begin, hz_w_at d_M_begin_41]; rfl
theorem d_M_begin_44 : decode c_M_begin 44 = .ok (.iload_n 1, 1) := by decide +kernel
theorem e_M_begin_44 {a0 a2 a3 a4 a5 : Option Value} : q_M_begin S (f + 1) 44 [a0, some (.int x), a2, a3, a4, a5] st h = (q_M_begin S f 45 [a0, some (.int x), a2, a3, a4, a5] (.int x :: st) h) := by rw [q_M_begin, hz_w_at d_M_begin_44]; rfl
theorem d_M_begin_45 : decode c_M_begin 45 = .ok (.invokestatic 97, 3) := by decide +kernel
theorem e_M_begin_45 : q_M_begin S (f + 1) 45 L st h = (S 45 L st h) := by rw [q_M_begin, hz_w_at d_M_begin_45]; rfl
theorem d_M_begin_48 : decode c_M_begin 48 = .ok (.ifCond .eq 7, 3) := by decide +kernel
theorem e_M_begin_48 : q_M_begin S (f + 1) 48 L (.int x :: st) h = ((x.toInt = 0 → q_M_begin S f 55 L st h) ∧ (¬ (x.toInt = 0) → q_M_begin S f 51 L st h)) := by rw [q_M_begin, hz_w_at d_M_begin_48]; rfl
theorem d_M_begin_51 : decode c_M_begin 51 = .ok (.iconst 1, 1) := by decide +kernel
theorem e_M_begin_51 : q_M_begin S (f + 1) 51 L st h = (q_M_begin S f 52 L (.int (hz_n 1) :: st) h) := by rw [q_M_begin, hz_w_at d_M_begin_51]; rfl
theorem d_M_begin_52 : decode c_M_begin 52 = .ok (.goto 24, 3) := by decide +kernel
theorem e_M_begin_52 : q_M_begin S (f + 1) 52 L st h = (q_M_begin S f 76 L st h) := by rw [q_M_begin, hz_w_at d_M_begin_52]; rfl
theorem d_M_begin_55 : decode c_M_begin 55 = .ok (.iload_n 1, 1) := by decide +kernel
theorem e_M_begin_55 {a0 a2 a3 a4 a5 : Option Value} : q_M_begin S (f + 1) 55 [a0, some (.int x), a2, a3, a4, a5] st h = (q_M_begin S f 56 [a0, some (.int x), a2, a3, a4, a5] (.int x :: st) h) := by rw [q_M_begin, hz_w_at d_M_begin_55]; rfl
theorem d_M_begin_56 : decode c_M_begin 56 = .ok (.invokestatic 101, 3) := by decide +kernel
theorem e_M_begin_56 : q_M_begin S (f + 1) 56 L st h = (S 56 L st h) := by rw [q_M_begin, hz_w_at d_M_begin_56]; rfl
theorem d_M_begin_59 : decode c_M_begin 59 = .ok (.ifCond .eq 7, 3) := by decide +kernel
theorem e_M_begin_59 : q_M_begin S (f + 1) 59 L (.int x :: st) h = ((x.toInt = 0 → q_M_begin S f 66 L st h) ∧ (¬ (x.toInt = 0) → q_M_begin S f 62 L st h)) := by rw [q_M_begin, hz_w_at d_M_begin_59]; rfl
theorem d_M_begin_62 : decode c_M_begin 62 = .ok (.iconst 3, 1) := by decide +kernel
theorem e_M_begin_62 : q_M_begin S (f + 1) 62 L st h = (q_M_begin S f 63 L (.int (hz_n 3) :: st) h) := by rw [q_M_begin, hz_w_at d_M_begin_62]; rfl
theorem d_M_begin_63 : decode c_M_begin 63 = .ok (.goto 13, 3) := by decide +kernel
theorem e_M_begin_63 : q_M_begin S (f + 1) 63 L st h = (q_M_begin S f 76 L st h) := by rw [q_M_begin, hz_w_at d_M_begin_63]; rfl
theorem d_M_begin_66 : decode c_M_begin 66 = .ok (.iload 4, 2) := by decide +kernel
theorem e_M_begin_66 {a0 a1 a2 a3 a5 : Option Value} : q_M_begin S (f + 1) 66 [a0, a1, a2, a3, some (.int x), a5] st h = (q_M_begin S f 68 [a0, a1, a2, a3, some (.int x), a5] (.int x :: st) h) := by rw [q_M_begin, hz_w_at d_M_begin_66]; rfl
theorem d_M_begin_68 : decode c_M_begin 68 = .ok (.ifCond .eq 7, 3) := by decide +kernel
theorem e_M_begin_68 : q_M_begin S (f + 1) 68 L (.int x :: st) h = ((x.toInt = 0 → q_M_begin S f 75 L st h) ∧ (¬ (x.toInt = 0) → q_M_begin S f 71 L st h)) := by rw [q_M_begin, hz_w_at d_M_begin_68]; rfl
theorem d_M_begin_71 : decode c_M_begin 71 = .ok (.iconst 2, 1) := by decide +kernel
theorem e_M_begin_71 : q_M_begin S (f + 1) 71 L st h = (q_M_begin S f 72 L (.int (hz_n 2) :: st) h) := by rw [q_M_begin, hz_w_at d_M_begin_71]; rfl
theorem d_M_begin_72 : decode c_M_begin 72 = .ok (.goto 4, 3) := by decide +kernel
theorem e_M_begin_72 : q_M_begin S (f + 1) 72 L st h = (q_M_begin S f 76 L st h) := by rw [q_M_begin, hz_w_at d_M_begin_72]; rfl
theorem d_M_begin_75 : decode c_M_begin 75 = .ok (.iconst 4, 1) := by decide +kernel
theorem e_M_begin_75 : q_M_begin S (f + 1) 75 L st h = (q_M_begin S f 76 L (.int (hz_n 4) :: st) h) := by rw [q_M_begin, hz_w_at d_M_begin_75]; rfl
theorem d_M_begin_76 : decode c_M_begin 76 = .ok (.istore 5, 2) := by decide +kernel
theorem e_M_begin_76 {a0 a1 a2 a3 a4 a5 : Option Value} : q_M_begin S (f + 1) 76 [a0, a1, a2, a3, a4, a5] (.int x :: st) h = (q_M_begin S f 78 [a0, a1, a2, a3, a4, some (.int x)] st h) := by rw [q_M_begin, hz_w_at d_M_begin_76]; rfl
theorem d_M_begin_78 : decode c_M_begin 78 = .ok (.aload_n 0, 1) := by decide +kernel
theorem e_M_begin_78 {a1 a2 a3 a4 a5 : Option Value} : q_M_begin S (f + 1) 78 [some (.ref i), a1, a2, a3, a4, a5] st h = (q_M_begin S f 79 [some (.ref i), a1, a2, a3, a4, a5] (.ref i :: st) h) := by rw [q_M_begin, hz_w_at d_M_begin_78]; rfl
theorem e_M_begin_78n {a1 a2 a3 a4 a5 : Option Value} : q_M_begin S (f + 1) 78 [some .null, a1, a2, a3, a4, a5] st h = (q_M_begin S f 79 [some .null, a1, a2, a3, a4, a5] (.null :: st) h) := by rw [q_M_begin, hz_w_at d_M_begin_78]; rfl
theorem d_M_begin_79 : decode c_M_begin 79 = .ok (.iload 5, 2) := by decide +kernel
theorem e_M_begin_79 {a0 a1 a2 a3 a4 : Option Value} : q_M_begin S (f + 1) 79 [a0, a1, a2, a3, a4, some (.int x)] st h = (q_M_begin S f 81 [a0, a1, a2, a3, a4, some (.int x)] (.int x :: st) h) := by rw [q_M_begin, hz_w_at d_M_begin_79]; rfl
theorem d_M_begin_81 : decode c_M_begin 81 = .ok (.iload_n 1, 1) := by decide +kernel
theorem e_M_begin_81 {a0 a2 a3 a4 a5 : Option Value} : q_M_begin S (f + 1) 81 [a0, some (.int x), a2, a3, a4, a5] st h = (q_M_begin S f 82 [a0, some (.int x), a2, a3, a4, a5] (.int x :: st) h) := by rw [q_M_begin, hz_w_at d_M_begin_81]; rfl
theorem d_M_begin_82 : decode c_M_begin 82 = .ok (.invokestatic 97, 3) := by decide +kernel
theorem e_M_begin_82 : q_M_begin S (f + 1) 82 L st h = (S 82 L st h) := by rw [q_M_begin, hz_w_at d_M_begin_82]; rfl
theorem d_M_begin_85 : decode c_M_begin 85 = .ok (.ifCond .eq 10, 3) := by decide +kernel
theorem e_M_begin_85 : q_M_begin S (f + 1) 85 L (.int x :: st) h = ((x.toInt = 0 → q_M_begin S f 95 L st h) ∧ (¬ (x.toInt = 0) → q_M_begin S f 88 L st h)) := by rw [q_M_begin, hz_w_at d_M_begin_85]; rfl
theorem d_M_begin_88 : decode c_M_begin 88 = .ok (.iload_n 1, 1) := by decide +kernel
theorem e_M_begin_88 {a0 a2 a3 a4 a5 : Option Value} : q_M_begin S (f + 1) 88 [a0, some (.int x), a2, a3, a4, a5] st h = (q_M_begin S f 89 [a0, some (.int x), a2, a3, a4, a5] (.int x :: st) h) := by rw [q_M_begin, hz_w_at d_M_begin_88]; rfl
theorem d_M_begin_89 : decode c_M_begin 89 = .ok (.bipush 97, 2) := by decide +kernel
theorem e_M_begin_89 : q_M_begin S (f + 1) 89 L st h = (q_M_begin S f 91 L (.int (hz_n 97) :: st) h) := by rw [q_M_begin, hz_w_at d_M_begin_89]; rfl
theorem d_M_begin_91 : decode c_M_begin 91 = .ok (.isub, 1) := by decide +kernel
theorem e_M_begin_91 : q_M_begin S (f + 1) 91 L (.int y :: .int x :: st) h = (q_M_begin S f 92 L (.int (x - y) :: st) h) := by rw [q_M_begin, hz_w_at d_M_begin_91]; rfl
theorem d_M_begin_92 : decode c_M_begin 92 = .ok (.goto 21, 3) := by decide +kernel
theorem e_M_begin_92 : q_M_begin S (f + 1) 92 L st h = (q_M_begin S f 113 L st h) := by rw [q_M_begin, hz_w_at d_M_begin_92]; rfl
theorem d_M_begin_95 : decode c_M_begin 95 = .ok (.iload_n 1, 1) := by decide +kernel
theorem e_M_begin_95 {a0 a2 a3 a4 a5 : Option Value} : q_M_begin S (f + 1) 95 [a0, some (.int x), a2, a3, a4, a5] st h = (q_M_begin S f 96 [a0, some (.int x), a2, a3, a4, a5] (.int x :: st) h) := by rw [q_M_begin, hz_w_at d_M_begin_95]; rfl
theorem d_M_begin_96 : decode c_M_begin 96 = .ok (.invokestatic 101, 3) := by decide +kernel
theorem e_M_begin_96 : q_M_begin S (f + 1) 96 L st h = (S 96 L st h) := by rw [q_M_begin, hz_w_at d_M_begin_96]; rfl
theorem d_M_begin_99 : decode c_M_begin 99 = .ok (.ifCond .eq 10, 3) := by decide +kernel
theorem e_M_begin_99 : q_M_begin S (f + 1) 99 L (.int x :: st) h = ((x.toInt = 0 → q_M_begin S f 109 L st h) ∧ (¬ (x.toInt = 0) → q_M_begin S f 102 L st h)) := by rw [q_M_begin, hz_w_at d_M_begin_99]; rfl
theorem d_M_begin_102 : decode c_M_begin 102 = .ok (.iload_n 1, 1) := by decide +kernel
theorem e_M_begin_102 {a0 a2 a3 a4 a5 : Option Value} : q_M_begin S (f + 1) 102 [a0, some (.int x), a2, a3, a4, a5] st h = (q_M_begin S f 103 [a0, some (.int x), a2, a3, a4, a5] (.int x :: st) h) := by rw [q_M_begin, hz_w_at d_M_begin_102]; rfl
theorem d_M_begin_103 : decode c_M_begin 103 = .ok (.bipush 65, 2) := by decide +kernel
theorem e_M_begin_103 : q_M_begin S (f + 1) 103 L st h = (q_M_begin S f 105 L (.int (hz_n 65) :: st) h) := by rw [q_M_begin, hz_w_at d_M_begin_103]; rfl
theorem d_M_begin_105 : decode c_M_begin 105 = .ok (.isub, 1) := by decide +kernel
theorem e_M_begin_105 : q_M_begin S (f + 1) 105 L (.int y :: .int x :: st) h = (q_M_begin S f 106 L (.int (x - y) :: st) h) := by rw [q_M_begin, hz_w_at d_M_begin_105]; rfl
theorem d_M_begin_106 : decode c_M_begin 106 = .ok (.goto 7, 3) := by decide +kernel
theorem e_M_begin_106 : q_M_begin S (f + 1) 106 L st h = (q_M_begin S f 113 L st h) := by rw [q_M_begin, hz_w_at d_M_begin_106]; rfl
theorem d_M_begin_109 : decode c_M_begin 109 = .ok (.iload_n 1, 1) := by decide +kernel
theorem e_M_begin_109 {a0 a2 a3 a4 a5 : Option Value} : q_M_begin S (f + 1) 109 [a0, some (.int x), a2, a3, a4, a5] st h = (q_M_begin S f 110 [a0, some (.int x), a2, a3, a4, a5] (.int x :: st) h) := by rw [q_M_begin, hz_w_at d_M_begin_109]; rfl
theorem d_M_begin_110 : decode c_M_begin 110 = .ok (.bipush 48, 2) := by decide +kernel
theorem e_M_begin_110 : q_M_begin S (f + 1) 110 L st h = (q_M_begin S f 112 L (.int (hz_n 48) :: st) h) := by rw [q_M_begin, hz_w_at d_M_begin_110]; rfl
theorem d_M_begin_112 : decode c_M_begin 112 = .ok (.isub, 1) := by decide +kernel
theorem e_M_begin_112 : q_M_begin S (f + 1) 112 L (.int y :: .int x :: st) h = (q_M_begin S f 113 L (.int (x - y) :: st) h) := by rw [q_M_begin, hz_w_at d_M_begin_112]; rfl
theorem d_M_begin_113 : decode c_M_begin 113 = .ok (.iload_n 2, 1) := by decide +kernel
theorem e_M_begin_113 {a0 a1 a3 a4 a5 : Option Value} : q_M_begin S (f + 1) 113 [a0, a1, some (.int x), a3, a4, a5] st h = (q_M_begin S f 114 [a0, a1, some (.int x), a3, a4, a5] (.int x :: st) h) := by rw [q_M_begin, hz_w_at d_M_begin_113]; rfl
theorem d_M_begin_114 : decode c_M_begin 114 = .ok (.invokevirtual 104, 3) := by decide +kernel
theorem e_M_begin_114 : q_M_begin S (f + 1) 114 L st h = (S 114 L st h) := by rw [q_M_begin, hz_w_at d_M_begin_114]; rfl
theorem d_M_begin_117 : decode c_M_begin 117 = .ok (.pop, 1) := by decide +kernel
theorem e_M_begin_117 : q_M_begin S (f + 1) 117 L (.ref i :: st) h = (q_M_begin S f 118 L st h) := by rw [q_M_begin, hz_w_at d_M_begin_117]; rfl
theorem e_M_begin_117i : q_M_begin S (f + 1) 117 L (.int x :: st) h = (q_M_begin S f 118 L st h) := by rw [q_M_begin, hz_w_at d_M_begin_117]; rfl
theorem d_M_begin_118 : decode c_M_begin 118 = .ok (.iconst 1, 1) := by decide +kernel
theorem e_M_begin_118 : q_M_begin S (f + 1) 118 L st h = (q_M_begin S f 119 L (.int (hz_n 1) :: st) h) := by rw [q_M_begin, hz_w_at d_M_begin_118]; rfl
theorem d_M_begin_119 : decode c_M_begin 119 = .ok (.ireturn, 1) := by decide +kernel
theorem e_M_begin_119 : q_M_begin S (f + 1) 119 L st h = (S 119 L st h) := by rw [q_M_begin, hz_w_at d_M_begin_119]; rfl
theorem d_M_begin_120 : decode c_M_begin 120 = .ok (.iload_n 3, 1) := by decide +kernel
theorem e_M_begin_120 {a0 a1 a2 a4 a5 : Option Value} : q_M_begin S (f + 1) 120 [a0, a1, a2, some (.int x), a4, a5] st h = (q_M_begin S f 121 [a0, a1, a2, some (.int x), a4, a5] (.int x :: st) h) := by rw [q_M_begin, hz_w_at d_M_begin_120]; rfl
theorem d_M_begin_121 : decode c_M_begin 121 = .ok (.bipush 15, 2) := by decide +kernel
theorem e_M_begin_121 : q_M_begin S (f + 1) 121 L st h = (q_M_begin S f 123 L (.int (hz_n 15) :: st) h) := by rw [q_M_begin, hz_w_at d_M_begin_121]; rfl
theorem d_M_begin_123 : decode c_M_begin 123 = .ok (.if_icmp .ne 5, 3) := by decide +kernel
theorem e_M_begin_123 : q_M_begin S (f + 1) 123 L (.int y :: .int x :: st) h = ((¬ x.toInt = y.toInt → q_M_begin S f 128 L st h) ∧ (¬ (¬ x.toInt = y.toInt) → q_M_begin S f 126 L st h)) := by rw [q_M_begin, hz_w_at d_M_begin_123]; rfl
theorem d_M_begin_126 : decode c_M_begin 126 = .ok (.iconst 0, 1) := by decide +kernel
theorem e_M_begin_126 : q_M_begin S (f + 1) 126 L st h = (q_M_begin S f 127 L (.int (hz_n 0) :: st) h) := by rw [q_M_begin, hz_w_at d_M_begin_126]; rfl
theorem d_M_begin_127 : decode c_M_begin 127 = .ok (.ireturn, 1) := by decide +kernel
theorem e_M_begin_127 : q_M_begin S (f + 1) 127 L st h = (S 127 L st h) := by rw [q_M_begin, hz_w_at d_M_begin_127]; rfl
theorem d_M_begin_128 : decode c_M_begin 128 = .ok (.iload_n 1, 1) := by decide +kernel
theorem e_M_begin_128 {a0 a2 a3 a4 a5 : Option Value} : q_M_begin S (f + 1) 128 [a0, some (.int x), a2, a3, a4, a5] st h = (q_M_begin S f 129 [a0, some (.int x), a2, a3, a4, a5] (.int x :: st) h) := by rw [q_M_begin, hz_w_at d_M_begin_128]; rfl
theorem d_M_begin_129 : decode c_M_begin 129 = .ok (.bipush 58, 2) := by decide +kernel
theorem e_M_begin_129 : q_M_begin S (f + 1) 129 L st h = (q_M_begin S f 131 L (.int (hz_n 58) :: st) h) := by rw [q_M_begin, hz_w_at d_M_begin_129]; rfl
theorem d_M_begin_131 : decode c_M_begin 131 = .ok (.if_icmp .ne 22, 3) := by decide +kernel
theorem e_M_begin_131 : q_M_begin S (f + 1) 131 L (.int y :: .int x :: st) h = ((¬ x.toInt = y.toInt → q_M_begin S f 153 L st h) ∧ (¬ (¬ x.toInt = y.toInt) → q_M_begin S f 134 L st h)) := by rw [q_M_begin, hz_w_at d_M_begin_131]; rfl
theorem d_M_begin_134 : decode c_M_begin 134 = .ok (.aload_n 0, 1) := by decide +kernel
theorem e_M_begin_134 {a1 a2 a3 a4 a5 : Option Value} : q_M_begin S (f + 1) 134 [some (.ref i), a1, a2, a3, a4, a5] st h = (q_M_begin S f 135 [some (.ref i), a1, a2, a3, a4, a5] (.ref i :: st) h) := by rw [q_M_begin, hz_w_at d_M_begin_134]; rfl
theorem e_M_begin_134n {a1 a2 a3 a4 a5 : Option Value} : q_M_begin S (f + 1) 134 [some .null, a1, a2, a3, a4, a5] st h = (q_M_begin S f 135 [some .null, a1, a2, a3, a4, a5] (.null :: st) h) := by rw [q_M_begin, hz_w_at d_M_begin_134]; rfl
theorem d_M_begin_135 : decode c_M_begin 135 = .ok (.iconst 5, 1) := by decide +kernel
theorem e_M_begin_135 : q_M_begin S (f + 1) 135 L st h = (q_M_begin S f 136 L (.int (hz_n 5) :: st) h) := by rw [q_M_begin, hz_w_at d_M_begin_135]; rfl
theorem d_M_begin_136 : decode c_M_begin 136 = .ok (.iconst 0, 1) := by decide +kernel
theorem e_M_begin_136 : q_M_begin S (f + 1) 136 L st h = (q_M_begin S f 137 L (.int (hz_n 0) :: st) h) := by rw [q_M_begin, hz_w_at d_M_begin_136]; rfl
theorem d_M_begin_137 : decode c_M_begin 137 = .ok (.iload_n 2, 1) := by decide +kernel
theorem e_M_begin_137 {a0 a1 a3 a4 a5 : Option Value} : q_M_begin S (f + 1) 137 [a0, a1, some (.int x), a3, a4, a5] st h = (q_M_begin S f 138 [a0, a1, some (.int x), a3, a4, a5] (.int x :: st) h) := by rw [q_M_begin, hz_w_at d_M_begin_137]; rfl
theorem d_M_begin_138 : decode c_M_begin 138 = .ok (.invokevirtual 104, 3) := by decide +kernel
theorem e_M_begin_138 : q_M_begin S (f + 1) 138 L st h = (S 138 L st h) := by rw [q_M_begin, hz_w_at d_M_begin_138]; rfl
theorem d_M_begin_141 : decode c_M_begin 141 = .ok (.pop, 1) := by decide +kernel
theorem e_M_begin_141 : q_M_begin S (f + 1) 141 L (.ref i :: st) h = (q_M_begin S f 142 L st h) := by rw [q_M_begin, hz_w_at d_M_begin_141]; rfl
theorem e_M_begin_141i : q_M_begin S (f + 1) 141 L (.int x :: st) h = (q_M_begin S f 142 L st h) := by rw [q_M_begin, hz_w_at d_M_begin_141]; rfl
theorem d_M_begin_142 : decode c_M_begin 142 = .ok (.aload_n 0, 1) := by decide +kernel
theorem e_M_begin_142 {a1 a2 a3 a4 a5 : Option Value} : q_M_begin S (f + 1) 142 [some (.ref i), a1, a2, a3, a4, a5] st h = (q_M_begin S f 143 [some (.ref i), a1, a2, a3, a4, a5] (.ref i :: st) h) := by rw [q_M_begin, hz_w_at d_M_begin_142]; rfl
theorem e_M_begin_142n {a1 a2 a3 a4 a5 : Option Value} : q_M_begin S (f + 1) 142 [some .null, a1, a2, a3, a4, a5] st h = (q_M_begin S f 143 [some .null, a1, a2, a3, a4, a5] (.null :: st) h) := by rw [q_M_begin, hz_w_at d_M_begin_142]; rfl
theorem d_M_begin_143 : decode c_M_begin 143 = .ok (.iconst 2, 1) := by decide +kernel
theorem e_M_begin_143 : q_M_begin S (f + 1) 143 L st h = (q_M_begin S f 144 L (.int (hz_n 2) :: st) h) := by rw [q_M_begin, hz_w_at d_M_begin_143]; rfl
theorem d_M_begin_144 : decode c_M_begin 144 = .ok (.iload_n 3, 1) := by decide +kernel
theorem e_M_begin_144 {a0 a1 a2 a4 a5 : Option Value} : q_M_begin S (f + 1) 144 [a0, a1, a2, some (.int x), a4, a5] st h = (q_M_begin S f 145 [a0, a1, a2, some (.int x), a4, a5] (.int x :: st) h) := by rw [q_M_begin, hz_w_at d_M_begin_144]; rfl
theorem d_M_begin_145 : decode c_M_begin 145 = .ok (.iconst 1, 1) := by decide +kernel
theorem e_M_begin_145 : q_M_begin S (f + 1) 145 L st h = (q_M_begin S f 146 L (.int (hz_n 1) :: st) h) := by rw [q_M_begin, hz_w_at d_M_begin_145]; rfl
theorem d_M_begin_146 : decode c_M_begin 146 = .ok (.iadd, 1) := by decide +kernel
theorem e_M_begin_146 : q_M_begin S (f + 1) 146 L (.int y :: .int x :: st) h = (q_M_begin S f 147 L (.int (x + y) :: st) h) := by rw [q_M_begin, hz_w_at d_M_begin_146]; rfl
theorem d_M_begin_147 : decode c_M_begin 147 = .ok (.invokevirtual 108, 3) := by decide +kernel
theorem e_M_begin_147 : q_M_begin S (f + 1) 147 L st h = (S 147 L st h) := by rw [q_M_begin, hz_w_at d_M_begin_147]; rfl
theorem d_M_begin_150 : decode c_M_begin 150 = .ok (.goto 175, 3) := by decide +kernel
theorem e_M_begin_150 : q_M_begin S (f + 1) 150 L st h = (q_M_begin S f 325 L st h) := by rw [q_M_begin, hz_w_at d_M_begin_150]; rfl
theorem d_M_begin_153 : decode c_M_begin 153 = .ok (.iload_n 1, 1) := by decide +kernel
theorem e_M_begin_153 {a0 a2 a3 a4 a5 : Option Value} : q_M_begin S (f + 1) 153 [a0, some (.int x), a2, a3, a4, a5] st h = (q_M_begin S f 154 [a0, some (.int x), a2, a3, a4, a5] (.int x :: st) h) := by rw [q_M_begin, hz_w_at d_M_begin_153]; rfl
theorem d_M_begin_154 : decode c_M_begin 154 = .ok (.invokestatic 112, 3) := by decide +kernel
theorem e_M_begin_154 : q_M_begin S (f + 1) 154 L st h = (S 154 L st h) := by rw [q_M_begin, hz_w_at d_M_begin_154]; rfl
theorem d_M_begin_157 : decode c_M_begin 157 = .ok (.ifCond .eq 23, 3) := by decide +kernel
theorem e_M_begin_157 : q_M_begin S (f + 1) 157 L (.int x :: st) h = ((x.toInt = 0 → q_M_begin S f 180 L st h) ∧ (¬ (x.toInt = 0) → q_M_begin S f 160 L st h)) := by rw [q_M_begin, hz_w_at d_M_begin_157]; rfl
theorem d_M_begin_160 : decode c_M_begin 160 = .ok (.aload_n 0, 1) := by decide +kernel
theorem e_M_begin_160 {a1 a2 a3 a4 a5 : Option Value} : q_M_begin S (f + 1) 160 [some (.ref i), a1, a2, a3, a4, a5] st h = (q_M_begin S f 161 [some (.ref i), a1, a2, a3, a4, a5] (.ref i :: st) h) := by rw [q_M_begin, hz_w_at d_M_begin_160]; rfl
theorem e_M_begin_160n {a1 a2 a3 a4 a5 : Option Value} : q_M_begin S (f + 1) 160 [some .null, a1, a2, a3, a4, a5] st h = (q_M_begin S f 161 [some .null, a1, a2, a3, a4, a5] (.null :: st) h) := by rw [q_M_begin, hz_w_at d_M_begin_160]; rfl
theorem d_M_begin_161 : decode c_M_begin 161 = .ok (.bipush 7, 2) := by decide +kernel
theorem e_M_begin_161 : q_M_begin S (f + 1) 161 L st h = (q_M_begin S f 163 L (.int (hz_n 7) :: st) h) := by rw [q_M_begin, hz_w_at d_M_begin_161]; rfl
theorem d_M_begin_163 : decode c_M_begin 163 = .ok (.iload_n 1, 1) := by decide +kernel
theorem e_M_begin_163 {a0 a2 a3 a4 a5 : Option Value} : q_M_begin S (f + 1) 163 [a0, some (.int x), a2, a3, a4, a5] st h = (q_M_begin S f 164 [a0, some (.int x), a2, a3, a4, a5] (.int x :: st) h) := by rw [q_M_begin, hz_w_at d_M_begin_163]; rfl
theorem d_M_begin_164 : decode c_M_begin 164 = .ok (.iload_n 2, 1) := by decide +kernel
theorem e_M_begin_164 {a0 a1 a3 a4 a5 : Option Value} : q_M_begin S (f + 1) 164 [a0, a1, some (.int x), a3, a4, a5] st h = (q_M_begin S f 165 [a0, a1, some (.int x), a3, a4, a5] (.int x :: st) h) := by rw [q_M_begin, hz_w_at d_M_begin_164]; rfl
theorem d_M_begin_165 : decode c_M_begin 165 = .ok (.invokevirtual 104, 3) := by decide +kernel
theorem e_M_begin_165 : q_M_begin S (f + 1) 165 L st h = (S 165 L st h) := by rw [q_M_begin, hz_w_at d_M_begin_165]; rfl
theorem d_M_begin_168 : decode c_M_begin 168 = .ok (.pop, 1) := by decide +kernel
theorem e_M_begin_168 : q_M_begin S (f + 1) 168 L (.ref i :: st) h = (q_M_begin S f 169 L st h) := by rw [q_M_begin, hz_w_at d_M_begin_168]; rfl
theorem e_M_begin_168i : q_M_begin S (f + 1) 168 L (.int x :: st) h = (q_M_begin S f 169 L st h) := by rw [q_M_begin, hz_w_at d_M_begin_168]; rfl
theorem d_M_begin_169 : decode c_M_begin 169 = .ok (.aload_n 0, 1) := by decide +kernel
theorem e_M_begin_169 {a1 a2 a3 a4 a5 : Option Value} : q_M_begin S (f + 1) 169 [some (.ref i), a1, a2, a3, a4, a5] st h = (q_M_begin S f 170 [some (.ref i), a1, a2, a3, a4, a5] (.ref i :: st) h) := by rw [q_M_begin, hz_w_at d_M_begin_169]; rfl
theorem e_M_begin_169n {a1 a2 a3 a4 a5 : Option Value} : q_M_begin S (f + 1) 169 [some .null, a1, a2, a3, a4, a5] st h = (q_M_begin S f 170 [some .null, a1, a2, a3, a4, a5] (.null :: st) h) := by rw [q_M_begin, hz_w_at d_M_begin_169]; rfl
theorem d_M_begin_170 : decode c_M_begin 170 = .ok (.iconst 2, 1) := by decide +kernel
theorem e_M_begin_170 : q_M_begin S (f + 1) 170 L st h = (q_M_begin S f 171 L (.int (hz_n 2) :: st) h) := by rw [q_M_begin, hz_w_at d_M_begin_170]; rfl
theorem d_M_begin_171 : decode c_M_begin 171 = .ok (.iload_n 3, 1) := by decide +kernel
theorem e_M_begin_171 {a0 a1 a2 a4 a5 : Option Value} : q_M_begin S (f + 1) 171 [a0, a1, a2, some (.int x), a4, a5] st h = (q_M_begin S f 172 [a0, a1, a2, some (.int x), a4, a5] (.int x :: st) h) := by rw [q_M_begin, hz_w_at d_M_begin_171]; rfl
theorem d_M_begin_172 : decode c_M_begin 172 = .ok (.iconst 1, 1) := by decide +kernel
theorem e_M_begin_172 : q_M_begin S (f + 1) 172 L st h = (q_M_begin S f 173 L (.int (hz_n 1) :: st) h) := by rw [q_M_begin, hz_w_at d_M_begin_172]; rfl
theorem d_M_begin_173 : decode c_M_begin 173 = .ok (.iadd, 1) := by decide +kernel
theorem e_M_begin_173 : q_M_begin S (f + 1) 173 L (.int y :: .int x :: st) h = (q_M_begin S f 174 L (.int (x + y) :: st) h) := by rw [q_M_begin, hz_w_at d_M_begin_173]; rfl
theorem d_M_begin_174 : decode c_M_begin 174 = .ok (.invokevirtual 108, 3) := by decide +kernel
theorem e_M_begin_174 : q_M_begin S (f + 1) 174 L st h = (S 174 L st h) := by rw [q_M_begin, hz_w_at d_M_begin_174]; rfl
theorem d_M_begin_177 : decode c_M_begin 177 = .ok (.goto 148, 3) := by decide +kernel
theorem e_M_begin_177 : q_M_begin S (f + 1) 177 L st h = (q_M_begin S f 325 L st h) := by rw [q_M_begin, hz_w_at d_M_begin_177]; rfl
theorem d_M_begin_180 : decode c_M_begin 180 = .ok (.iload_n 1, 1) := by decide +kernel
theorem e_M_begin_180 {a0 a2 a3 a4 a5 : Option Value} : q_M_begin S (f + 1) 180 [a0, some (.int x), a2, a3, a4, a5] st h = (q_M_begin S f 181 [a0, some (.int x), a2, a3, a4, a5] (.int x :: st) h) := by rw [q_M_begin, hz_w_at d_M_begin_180]; rfl
theorem d_M_begin_181 : decode c_M_begin 181 = .ok (.bipush 63, 2) := by decide +kernel
theorem e_M_begin_181 : q_M_begin S (f + 1) 181 L st h = (q_M_begin S f 183 L (.int (hz_n 63) :: st) h) := by rw [q_M_begin, hz_w_at d_M_begin_181]; rfl
theorem d_M_begin_183 : decode c_M_begin 183 = .ok (.if_icmp .ne 23, 3) := by decide +kernel
theorem e_M_begin_183 : q_M_begin S (f + 1) 183 L (.int y :: .int x :: st) h = ((¬ x.toInt = y.toInt → q_M_begin S f 206 L st h) ∧ (¬ (¬ x.toInt = y.toInt) → q_M_begin S f 186 L st h)) := by rw [q_M_begin, hz_w_at d_M_begin_183]; rfl
theorem d_M_begin_186 : decode c_M_begin 186 = .ok (.aload_n 0, 1) := by decide +kernel
theorem e_M_begin_186 {a1 a2 a3 a4 a5 : Option Value} : q_M_begin S (f + 1) 186 [some (.ref i), a1, a2, a3, a4, a5] st h = (q_M_begin S f 187 [some (.ref i), a1, a2, a3, a4, a5] (.ref i :: st) h) := by rw [q_M_begin, hz_w_at d_M_begin_186]; rfl
theorem e_M_begin_186n {a1 a2 a3 a4 a5 : Option Value} : q_M_begin S (f + 1) 186 [some .null, a1, a2, a3, a4, a5] st h = (q_M_begin S f 187 [some .null, a1, a2, a3, a4, a5] (.null :: st) h) := by rw [q_M_begin, hz_w_at d_M_begin_186]; rfl
theorem d_M_begin_187 : decode c_M_begin 187 = .ok (.bipush 8, 2) := by decide +kernel
theorem e_M_begin_187 : q_M_begin S (f + 1) 187 L st h = (q_M_begin S f 189 L (.int (hz_n 8) :: st) h) := by rw [q_M_begin, hz_w_at d_M_begin_187]; rfl
theorem d_M_begin_189 : decode c_M_begin 189 = .ok (.iconst 0, 1) := by decide +kernel
theorem e_M_begin_189 : q_M_begin S (f + 1) 189 L st h = (q_M_begin S f 190 L (.int (hz_n 0) :: st) h) := by rw [q_M_begin, hz_w_at d_M_begin_189]; rfl
theorem d_M_begin_190 : decode c_M_begin 190 = .ok (.iload_n 2, 1) := by decide +kernel
theorem e_M_begin_190 {a0 a1 a3 a4 a5 : Option Value} : q_M_begin S (f + 1) 190 [a0, a1, some (.int x), a3, a4, a5] st h = (q_M_begin S f 191 [a0, a1, some (.int x), a3, a4, a5] (.int x :: st) h) := by rw [q_M_begin, hz_w_at d_M_begin_190]; rfl
theorem d_M_begin_191 : decode c_M_begin 191 = .ok (.invokevirtual 104, 3) := by decide +kernel
theorem e_M_begin_191 : q_M_begin S (f + 1) 191 L st h = (S 191 L st h) := by rw [q_M_begin, hz_w_at d_M_begin_191]; rfl
theorem d_M_begin_194 : decode c_M_begin 194 = .ok (.pop, 1) := by decide +kernel
theorem e_M_begin_194 : q_M_begin S (f + 1) 194 L (.ref i :: st) h = (q_M_begin S f 195 L st h) := by rw [q_M_begin, hz_w_at d_M_begin_194]; rfl
theorem e_M_begin_194i : q_M_begin S (f + 1) 194 L (.int x :: st) h = (q_M_begin S f 195 L st h) := by rw [q_M_begin, hz_w_at d_M_begin_194]; rfl
theorem d_M_begin_195 : decode c_M_begin 195 = .ok (.aload_n 0, 1) := by decide +kernel
theorem e_M_begin_195 {a1 a2 a3 a4 a5 : Option Value} : q_M_begin S (f + 1) 195 [some (.ref i), a1, a2, a3, a4, a5] st h = (q_M_begin S f 196 [some (.ref i), a1, a2, a3, a4, a5] (.ref i :: st) h) := by rw [q_M_begin, hz_w_at d_M_begin_195]; rfl
theorem e_M_begin_195n {a1 a2 a3 a4 a5 : Option Value} : q_M_begin S (f + 1) 195 [some .null, a1, a2, a3, a4, a5] st h = (q_M_begin S f 196 [some .null, a1, a2, a3, a4, a5] (.null :: st) h) := by rw [q_M_begin, hz_w_at d_M_begin_195]; rfl
theorem d_M_begin_196 : decode c_M_begin 196 = .ok (.iconst 3, 1) := by decide +kernel
theorem e_M_begin_196 : q_M_begin S (f + 1) 196 L st h = (q_M_begin S f 197 L (.int (hz_n 3) :: st) h) := by rw [q_M_begin, hz_w_at d_M_begin_196]; rfl
theorem d_M_begin_197 : decode c_M_begin 197 = .ok (.iload_n 3, 1) := by decide +kernel
theorem e_M_begin_197 {a0 a1 a2 a4 a5 : Option Value} : q_M_begin S (f + 1) 197 [a0, a1, a2, some (.int x), a4, a5] st h = (q_M_begin S f 198 [a0, a1, a2, some (.int x), a4, a5] (.int x :: st) h) := by rw [q_M_begin, hz_w_at d_M_begin_197]; rfl
theorem d_M_begin_198 : decode c_M_begin 198 = .ok (.iconst 1, 1) := by decide +kernel
theorem e_M_begin_198 : q_M_begin S (f + 1) 198 L st h = (q_M_begin S f 199 L (.int (hz_n 1) :: st) h) := by rw [q_M_begin, hz_w_at d_M_begin_198]; rfl
theorem d_M_begin_199 : decode c_M_begin 199 = .ok (.iadd, 1) := by decide +kernel
theorem e_M_begin_199 : q_M_begin S (f + 1) 199 L (.int y :: .int x :: st) h = (q_M_begin S f 200 L (.int (x + y) :: st) h) := by rw [q_M_begin, hz_w_at d_M_begin_199]; rfl
theorem d_M_begin_200 : decode c_M_begin 200 = .ok (.invokevirtual 108, 3) := by decide +kernel
theorem e_M_begin_200 : q_M_begin S (f + 1) 200 L st h = (S 200 L st h) := by rw [q_M_begin, hz_w_at d_M_begin_200]; rfl
theorem d_M_begin_203 : decode c_M_begin 203 = .ok (.goto 122, 3) := by decide +kernel
theorem e_M_begin_203 : q_M_begin S (f + 1) 203 L st h = (q_M_begin S f 325 L st h) := by rw [q_M_begin, hz_w_at d_M_begin_203]; rfl
theorem d_M_begin_206 : decode c_M_begin 206 = .ok (.iload_n 1, 1) := by decide +kernel
theorem e_M_begin_206 {a0 a2 a3 a4 a5 : Option Value} : q_M_begin S (f + 1) 206 [a0, some (.int x), a2, a3, a4, a5] st h = (q_M_begin S f 207 [a0, some (.int x), a2, a3, a4, a5] (.int x :: st) h) := by rw [q_M_begin, hz_w_at d_M_begin_206]; rfl
theorem d_M_begin_207 : decode c_M_begin 207 = .ok (.bipush 40, 2) := by decide +kernel
theorem e_M_begin_207 : q_M_begin S (f + 1) 207 L st h = (q_M_begin S f 209 L (.int (hz_n 40) :: st) h) := by rw [q_M_begin, hz_w_at d_M_begin_207]; rfl
theorem d_M_begin_209 : decode c_M_begin 209 = .ok (.if_icmp .ne 28, 3) := by decide +kernel
theorem e_M_begin_209 : q_M_begin S (f + 1) 209 L (.int y :: .int x :: st) h = ((¬ x.toInt = y.toInt → q_M_begin S f 237 L st h) ∧ (¬ (¬ x.toInt = y.toInt) → q_M_begin S f 212 L st h)) := by rw [q_M_begin, hz_w_at d_M_begin_209]; rfl
theorem d_M_begin_212 : decode c_M_begin 212 = .ok (.aload_n 0, 1) := by decide +kernel
theorem e_M_begin_212 {a1 a2 a3 a4 a5 : Option Value} : q_M_begin S (f + 1) 212 [some (.ref i), a1, a2, a3, a4, a5] st h = (q_M_begin S f 213 [some (.ref i), a1, a2, a3, a4, a5] (.ref i :: st) h) := by rw [q_M_begin, hz_w_at d_M_begin_212]; rfl
theorem e_M_begin_212n {a1 a2 a3 a4 a5 : Option Value} : q_M_begin S (f + 1) 212 [some .null, a1, a2, a3, a4, a5] st h = (q_M_begin S f 213 [some .null, a1, a2, a3, a4, a5] (.null :: st) h) := by rw [q_M_begin, hz_w_at d_M_begin_212]; rfl
theorem d_M_begin_213 : decode c_M_begin 213 = .ok (.iconst 3, 1) := by decide +kernel
theorem e_M_begin_213 : q_M_begin S (f + 1) 213 L st h = (q_M_begin S f 214 L (.int (hz_n 3) :: st) h) := by rw [q_M_begin, hz_w_at d_M_begin_213]; rfl
theorem d_M_begin_214 : decode c_M_begin 214 = .ok (.aload_n 0, 1) := by decide +kernel
theorem e_M_begin_214 {a1 a2 a3 a4 a5 : Option Value} : q_M_begin S (f + 1) 214 [some (.ref i), a1, a2, a3, a4, a5] st h = (q_M_begin S f 215 [some (.ref i), a1, a2, a3, a4, a5] (.ref i :: st) h) := by rw [q_M_begin, hz_w_at d_M_begin_214]; rfl
theorem e_M_begin_214n {a1 a2 a3 a4 a5 : Option Value} : q_M_begin S (f + 1) 214 [some .null, a1, a2, a3, a4, a5] st h = (q_M_begin S f 215 [some .null, a1, a2, a3, a4, a5] (.null :: st) h) := by rw [q_M_begin, hz_w_at d_M_begin_214]; rfl
theorem d_M_begin_215 : decode c_M_begin 215 = .ok (.bipush 6, 2) := by decide +kernel
theorem e_M_begin_215 : q_M_begin S (f + 1) 215 L st h = (q_M_begin S f 217 L (.int (hz_n 6) :: st) h) := by rw [q_M_begin, hz_w_at d_M_begin_215]; rfl
theorem d_M_begin_217 : decode c_M_begin 217 = .ok (.iconst 0, 1) := by decide +kernel
theorem e_M_begin_217 : q_M_begin S (f + 1) 217 L st h = (q_M_begin S f 218 L (.int (hz_n 0) :: st) h) := by rw [q_M_begin, hz_w_at d_M_begin_217]; rfl
theorem d_M_begin_218 : decode c_M_begin 218 = .ok (.iload_n 2, 1) := by decide +kernel
theorem e_M_begin_218 {a0 a1 a3 a4 a5 : Option Value} : q_M_begin S (f + 1) 218 [a0, a1, some (.int x), a3, a4, a5] st h = (q_M_begin S f 219 [a0, a1, some (.int x), a3, a4, a5] (.int x :: st) h) := by rw [q_M_begin, hz_w_at d_M_begin_218]; rfl
theorem d_M_begin_219 : decode c_M_begin 219 = .ok (.invokevirtual 104, 3) := by decide +kernel
theorem e_M_begin_219 : q_M_begin S (f + 1) 219 L st h = (S 219 L st h) := by rw [q_M_begin, hz_w_at d_M_begin_219]; rfl
theorem d_M_begin_222 : decode c_M_begin 222 = .ok (.iload_n 3, 1) := by decide +kernel
theorem e_M_begin_222 {a0 a1 a2 a4 a5 : Option Value} : q_M_begin S (f + 1) 222 [a0, a1, a2, some (.int x), a4, a5] st h = (q_M_begin S f 223 [a0, a1, a2, some (.int x), a4, a5] (.int x :: st) h) := by rw [q_M_begin, hz_w_at d_M_begin_222]; rfl
theorem d_M_begin_223 : decode c_M_begin 223 = .ok (.invokevirtual 93, 3) := by decide +kernel
theorem e_M_begin_223 : q_M_begin S (f + 1) 223 L st h = (S 223 L st h) := by rw [q_M_begin, hz_w_at d_M_begin_223]; rfl
theorem d_M_begin_226 : decode c_M_begin 226 = .ok (.aload_n 0, 1) := by decide +kernel
theorem e_M_begin_226 {a1 a2 a3 a4 a5 : Option Value} : q_M_begin S (f + 1) 226 [some (.ref i), a1, a2, a3, a4, a5] st h = (q_M_begin S f 227 [some (.ref i), a1, a2, a3, a4, a5] (.ref i :: st) h) := by rw [q_M_begin, hz_w_at d_M_begin_226]; rfl
theorem e_M_begin_226n {a1 a2 a3 a4 a5 : Option Value} : q_M_begin S (f + 1) 226 [some .null, a1, a2, a3, a4, a5] st h = (q_M_begin S f 227 [some .null, a1, a2, a3, a4, a5] (.null :: st) h) := by rw [q_M_begin, hz_w_at d_M_begin_226]; rfl
theorem d_M_begin_227 : decode c_M_begin 227 = .ok (.iconst 1, 1) := by decide +kernel
theorem e_M_begin_227 : q_M_begin S (f + 1) 227 L st h = (q_M_begin S f 228 L (.int (hz_n 1) :: st) h) := by rw [q_M_begin, hz_w_at d_M_begin_227]; rfl
theorem d_M_begin_228 : decode c_M_begin 228 = .ok (.iload_n 3, 1) := by decide +kernel
theorem e_M_begin_228 {a0 a1 a2 a4 a5 : Option Value} : q_M_begin S (f + 1) 228 [a0, a1, a2, some (.int x), a4, a5] st h = (q_M_begin S f 229 [a0, a1, a2, some (.int x), a4, a5] (.int x :: st) h) := by rw [q_M_begin, hz_w_at d_M_begin_228]; rfl
theorem d_M_begin_229 : decode c_M_begin 229 = .ok (.iconst 1, 1) := by decide +kernel
theorem e_M_begin_229 : q_M_begin S (f + 1) 229 L st h = (q_M_begin S f 230 L (.int (hz_n 1) :: st) h) := by rw [q_M_begin, hz_w_at d_M_begin_229]; rfl
theorem d_M_begin_230 : decode c_M_begin 230 = .ok (.iadd, 1) := by decide +kernel
theorem e_M_begin_230 : q_M_begin S (f + 1) 230 L (.int y :: .int x :: st) h = (q_M_begin S f 231 L (.int (x + y) :: st) h) := by rw [q_M_begin, hz_w_at d_M_begin_230]; rfl
theorem d_M_begin_231 : decode c_M_begin 231 = .ok (.invokevirtual 108, 3) := by decide +kernel
theorem e_M_begin_231 : q_M_begin S (f + 1) 231 L st h = (S 231 L st h) := by rw [q_M_begin, hz_w_at d_M_begin_231]; rfl
theorem d_M_begin_234 : decode c_M_begin 234 = .ok (.goto 91, 3) := by decide +kernel
theorem e_M_begin_234 : q_M_begin S (f + 1) 234 L st h = (q_M_begin S f 325 L st h) := by rw [q_M_begin, hz_w_at d_M_begin_234]; rfl
theorem d_M_begin_237 : decode c_M_begin 237 = .ok (.iload_n 1, 1) := by decide +kernel
theorem e_M_begin_237 {a0 a2 a3 a4 a5 : Option Value} : q_M_begin S (f + 1) 237 [a0, some (.int x), a2, a3, a4, a5] st h = (q_M_begin S f 238 [a0, some (.int x), a2, a3, a4, a5] (.int x :: st) h) := by rw [q_M_begin, hz_w_at d_M_begin_237]; rfl
theorem d_M_begin_238 : decode c_M_begin 238 = .ok (.bipush 47, 2) := by decide +kernel
theorem e_M_begin_238 : q_M_begin S (f + 1) 238 L st h = (q_M_begin S f 240 L (.int (hz_n 47) :: st) h) := by rw [q_M_begin, hz_w_at d_M_begin_238]; rfl
theorem d_M_begin_240 : decode c_M_begin 240 = .ok (.if_icmp .ne 48, 3) := by decide +kernel
theorem e_M_begin_240 : q_M_begin S (f + 1) 240 L (.int y :: .int x :: st) h = ((¬ x.toInt = y.toInt → q_M_begin S f 288 L st h) ∧ (¬ (¬ x.toInt = y.toInt) → q_M_begin S f 243 L st h)) := by rw [q_M_begin, hz_w_at d_M_begin_240]; rfl
theorem d_M_begin_243 : decode c_M_begin 243 = .ok (.aload_n 0, 1) := by decide +kernel
theorem e_M_begin_243 {a1 a2 a3 a4 a5 : Option Value} : q_M_begin S (f + 1) 243 [some (.ref i), a1, a2, a3, a4, a5] st h = (q_M_begin S f 244 [some (.ref i), a1, a2, a3, a4, a5] (.ref i :: st) h) := by rw [q_M_begin, hz_w_at d_M_begin_243]; rfl
theorem e_M_begin_243n {a1 a2 a3 a4 a5 : Option Value} : q_M_begin S (f + 1) 243 [some .null, a1, a2, a3, a4, a5] st h = (q_M_begin S f 244 [some .null, a1, a2, a3, a4, a5] (.null :: st) h) := by rw [q_M_begin, hz_w_at d_M_begin_243]; rfl
theorem d_M_begin_244 : decode c_M_begin 244 = .ok (.bipush 9, 2) := by decide +kernel
theorem e_M_begin_244 : q_M_begin S (f + 1) 244 L st h = (q_M_begin S f 246 L (.int (hz_n 9) :: st) h) := by rw [q_M_begin, hz_w_at d_M_begin_244]; rfl
theorem d_M_begin_246 : decode c_M_begin 246 = .ok (.iconst 0, 1) := by decide +kernel
theorem e_M_begin_246 : q_M_begin S (f + 1) 246 L st h = (q_M_begin S f 247 L (.int (hz_n 0) :: st) h) := by rw [q_M_begin, hz_w_at d_M_begin_246]; rfl
theorem d_M_begin_247 : decode c_M_begin 247 = .ok (.iload_n 2, 1) := by decide +kernel
theorem e_M_begin_247 {a0 a1 a3 a4 a5 : Option Value} : q_M_begin S (f + 1) 247 [a0, a1, some (.int x), a3, a4, a5] st h = (q_M_begin S f 248 [a0, a1, some (.int x), a3, a4, a5] (.int x :: st) h) := by rw [q_M_begin, hz_w_at d_M_begin_247]; rfl
theorem d_M_begin_248 : decode c_M_begin 248 = .ok (.invokevirtual 104, 3) := by decide +kernel
theorem e_M_begin_248 : q_M_begin S (f + 1) 248 L st h = (S 248 L st h) := by rw [q_M_begin, hz_w_at d_M_begin_248]; rfl
theorem d_M_begin_251 : decode c_M_begin 251 = .ok (.istore 5, 2) := by decide +kernel
theorem e_M_begin_251 {a0 a1 a2 a3 a4 a5 : Option Value} : q_M_begin S (f + 1) 251 [a0, a1, a2, a3, a4, a5] (.int x :: st) h = (q_M_begin S f 253 [a0, a1, a2, a3, a4, some (.int x)] st h) := by rw [q_M_begin, hz_w_at d_M_begin_251]; rfl
theorem d_M_begin_253 : decode c_M_begin 253 = .ok (.aload_n 0, 1) := by decide +kernel
theorem e_M_begin_253 {a1 a2 a3 a4 a5 : Option Value} : q_M_begin S (f + 1) 253 [some (.ref i), a1, a2, a3, a4, a5] st h = (q_M_begin S f 254 [some (.ref i), a1, a2, a3, a4, a5] (.ref i :: st) h) := by rw [q_M_begin, hz_w_at d_M_begin_253]; rfl
theorem e_M_begin_253n {a1 a2 a3 a4 a5 : Option Value} : q_M_begin S (f + 1) 253 [some .null, a1, a2, a3, a4, a5] st h = (q_M_begin S f 254 [some .null, a1, a2, a3, a4, a5] (.null :: st) h) := by rw [q_M_begin, hz_w_at d_M_begin_253]; rfl
theorem d_M_begin_254 : decode c_M_begin 254 = .ok (.iconst 1, 1) := by decide +kernel
theorem e_M_begin_254 : q_M_begin S (f + 1) 254 L st h = (q_M_begin S f 255 L (.int (hz_n 1) :: st) h) := by rw [q_M_begin, hz_w_at d_M_begin_254]; rfl
theorem d_M_begin_255 : decode c_M_begin 255 = .ok (.iload_n 3, 1) := by decide +kernel
theorem e_M_begin_255 {a0 a1 a2 a4 a5 : Option Value} : q_M_begin S (f + 1) 255 [a0, a1, a2, some (.int x), a4, a5] st h = (q_M_begin S f 256 [a0, a1, a2, some (.int x), a4, a5] (.int x :: st) h) := by rw [q_M_begin, hz_w_at d_M_begin_255]; rfl
theorem d_M_begin_256 : decode c_M_begin 256 = .ok (.iconst 1, 1) := by decide +kernel
theorem e_M_begin_256 : q_M_begin S (f + 1) 256 L st h = (q_M_begin S f 257 L (.int (hz_n 1) :: st) h) := by rw [q_M_begin, hz_w_at d_M_begin_256]; rfl
theorem d_M_begin_257 : decode c_M_begin 257 = .ok (.iadd, 1) := by decide +kernel
theorem e_M_begin_257 : q_M_begin S (f + 1) 257 L (.int y :: .int x :: st) h = (q_M_begin S f 258 L (.int (x + y) :: st) h) := by rw [q_M_begin, hz_w_at d_M_begin_257]; rfl
theorem d_M_begin_258 : decode c_M_begin 258 = .ok (.invokevirtual 108, 3) := by decide +kernel
theorem e_M_begin_258 : q_M_begin S (f + 1) 258 L st h = (S 258 L st h) := by rw [q_M_begin, hz_w_at d_M_begin_258]; rfl
theorem d_M_begin_261 : decode c_M_begin 261 = .ok (.aload_n 0, 1) := by decide +kernel
theorem e_M_begin_261 {a1 a2 a3 a4 a5 : Option Value} : q_M_begin S (f + 1) 261 [some (.ref i), a1, a2, a3, a4, a5] st h = (q_M_begin S f 262 [some (.ref i), a1, a2, a3, a4, a5] (.ref i :: st) h) := by rw [q_M_begin, hz_w_at d_M_begin_261]; rfl
theorem e_M_begin_261n {a1 a2 a3 a4 a5 : Option Value} : q_M_begin S (f + 1) 261 [some .null, a1, a2, a3, a4, a5] st h = (q_M_begin S f 262 [some .null, a1, a2, a3, a4, a5] (.null :: st) h) := by rw [q_M_begin, hz_w_at d_M_begin_261]; rfl
theorem d_M_begin_262 : decode c_M_begin 262 = .ok (.iconst 5, 1) := by decide +kernel
theorem e_M_begin_262 : q_M_begin S (f + 1) 262 L st h = (q_M_begin S f 263 L (.int (hz_n 5) :: st) h) := by rw [q_M_begin, hz_w_at d_M_begin_262]; rfl
theorem d_M_begin_263 : decode c_M_begin 263 = .ok (.iload 5, 2) := by decide +kernel
theorem e_M_begin_263 {a0 a1 a2 a3 a4 : Option Value} : q_M_begin S (f + 1) 263 [a0, a1, a2, a3, a4, some (.int x)] st h = (q_M_begin S f 265 [a0, a1, a2, a3, a4, some (.int x)] (.int x :: st) h) := by rw [q_M_begin, hz_w_at d_M_begin_263]; rfl
theorem d_M_begin_265 : decode c_M_begin 265 = .ok (.iload_n 3, 1) := by decide +kernel
theorem e_M_begin_265 {a0 a1 a2 a4 a5 : Option Value} : q_M_begin S (f + 1) 265 [a0, a1, a2, some (.int x), a4, a5] st h = (q_M_begin S f 266 [a0, a1, a2, some (.int x), a4, a5] (.int x :: st) h) := by rw [q_M_begin, hz_w_at d_M_begin_265]; rfl
theorem d_M_begin_266 : decode c_M_begin 266 = .ok (.invokevirtual 93, 3) := by decide +kernel
theorem e_M_begin_266 : q_M_begin S (f + 1) 266 L st h = (S 266 L st h) := by rw [q_M_begin, hz_w_at d_M_begin_266]; rfl
theorem d_M_begin_269 : decode c_M_begin 269 = .ok (.aload_n 0, 1) := by decide +kernel
theorem e_M_begin_269 {a1 a2 a3 a4 a5 : Option Value} : q_M_begin S (f + 1) 269 [some (.ref i), a1, a2, a3, a4, a5] st h = (q_M_begin S f 270 [some (.ref i), a1, a2, a3, a4, a5] (.ref i :: st) h) := by rw [q_M_begin, hz_w_at d_M_begin_269]; rfl
theorem e_M_begin_269n {a1 a2 a3 a4 a5 : Option Value} : q_M_begin S (f + 1) 269 [some .null, a1, a2, a3, a4, a5] st h = (q_M_begin S f 270 [some .null, a1, a2, a3, a4, a5] (.null :: st) h) := by rw [q_M_begin, hz_w_at d_M_begin_269]; rfl
theorem d_M_begin_270 : decode c_M_begin 270 = .ok (.iconst 4, 1) := by decide +kernel
theorem e_M_begin_270 : q_M_begin S (f + 1) 270 L st h = (q_M_begin S f 271 L (.int (hz_n 4) :: st) h) := by rw [q_M_begin, hz_w_at d_M_begin_270]; rfl
theorem d_M_begin_271 : decode c_M_begin 271 = .ok (.iload 5, 2) := by decide +kernel
theorem e_M_begin_271 {a0 a1 a2 a3 a4 : Option Value} : q_M_begin S (f + 1) 271 [a0, a1, a2, a3, a4, some (.int x)] st h = (q_M_begin S f 273 [a0, a1, a2, a3, a4, some (.int x)] (.int x :: st) h) := by rw [q_M_begin, hz_w_at d_M_begin_271]; rfl
theorem d_M_begin_273 : decode c_M_begin 273 = .ok (.iload_n 3, 1) := by decide +kernel
theorem e_M_begin_273 {a0 a1 a2 a4 a5 : Option Value} : q_M_begin S (f + 1) 273 [a0, a1, a2, some (.int x), a4, a5] st h = (q_M_begin S f 274 [a0, a1, a2, some (.int x), a4, a5] (.int x :: st) h) := by rw [q_M_begin, hz_w_at d_M_begin_273]; rfl
theorem d_M_begin_274 : decode c_M_begin 274 = .ok (.invokevirtual 93, 3) := by decide +kernel
theorem e_M_begin_274 : q_M_begin S (f + 1) 274 L st h = (S 274 L st h) := by rw [q_M_begin, hz_w_at d_M_begin_274]; rfl
theorem d_M_begin_277 : decode c_M_begin 277 = .ok (.aload_n 0, 1) := by decide +kernel
theorem e_M_begin_277 {a1 a2 a3 a4 a5 : Option Value} : q_M_begin S (f + 1) 277 [some (.ref i), a1, a2, a3, a4, a5] st h = (q_M_begin S f 278 [some (.ref i), a1, a2, a3, a4, a5] (.ref i :: st) h) := by rw [q_M_begin, hz_w_at d_M_begin_277]; rfl
theorem e_M_begin_277n {a1 a2 a3 a4 a5 : Option Value} : q_M_begin S (f + 1) 277 [some .null, a1, a2, a3, a4, a5] st h = (q_M_begin S f 278 [some .null, a1, a2, a3, a4, a5] (.null :: st) h) := by rw [q_M_begin, hz_w_at d_M_begin_277]; rfl
theorem d_M_begin_278 : decode c_M_begin 278 = .ok (.iconst 2, 1) := by decide +kernel
theorem e_M_begin_278 : q_M_begin S (f + 1) 278 L st h = (q_M_begin S f 279 L (.int (hz_n 2) :: st) h) := by rw [q_M_begin, hz_w_at d_M_begin_278]; rfl
theorem d_M_begin_279 : decode c_M_begin 279 = .ok (.iload_n 3, 1) := by decide +kernel
theorem e_M_begin_279 {a0 a1 a2 a4 a5 : Option Value} : q_M_begin S (f + 1) 279 [a0, a1, a2, some (.int x), a4, a5] st h = (q_M_begin S f 280 [a0, a1, a2, some (.int x), a4, a5] (.int x :: st) h) := by rw [q_M_begin, hz_w_at d_M_begin_279]; rfl
theorem d_M_begin_280 : decode c_M_begin 280 = .ok (.iconst 1, 1) := by decide +kernel
theorem e_M_begin_280 : q_M_begin S (f + 1) 280 L st h = (q_M_begin S f 281 L (.int (hz_n 1) :: st) h) := by rw [q_M_begin, hz_w_at d_M_begin_280]; rfl
theorem d_M_begin_281 : decode c_M_begin 281 = .ok (.iadd, 1) := by decide +kernel
theorem e_M_begin_281 : q_M_begin S (f + 1) 281 L (.int y :: .int x :: st) h = (q_M_begin S f 282 L (.int (x + y) :: st) h) := by rw [q_M_begin, hz_w_at d_M_begin_281]; rfl
theorem d_M_begin_282 : decode c_M_begin 282 = .ok (.invokevirtual 108, 3) := by decide +kernel
theorem e_M_begin_282 : q_M_begin S (f + 1) 282 L st h = (S 282 L st h) := by rw [q_M_begin, hz_w_at d_M_begin_282]; rfl
theorem d_M_begin_285 : decode c_M_begin 285 = .ok (.goto 40, 3) := by decide +kernel
theorem e_M_begin_285 : q_M_begin S (f + 1) 285 L st h = (q_M_begin S f 325 L st h) := by rw [q_M_begin, hz_w_at d_M_begin_285]; rfl
theorem d_M_begin_288 : decode c_M_begin 288 = .ok (.iload_n 1, 1) := by decide +kernel
theorem e_M_begin_288 {a0 a2 a3 a4 a5 : Option Value} : q_M_begin S (f + 1) 288 [a0, some (.int x), a2, a3, a4, a5] st h = (q_M_begin S f 289 [a0, some (.int x), a2, a3, a4, a5] (.int x :: st) h) := by rw [q_M_begin, hz_w_at d_M_begin_288]; rfl
theorem d_M_begin_289 : decode c_M_begin 289 = .ok (.bipush 36, 2) := by decide +kernel
theorem e_M_begin_289 : q_M_begin S (f + 1) 289 L st h = (q_M_begin S f 291 L (.int (hz_n 36) :: st) h) := by rw [q_M_begin, hz_w_at d_M_begin_289]; rfl
theorem d_M_begin_291 : decode c_M_begin 291 = .ok (.if_icmp .ne 32, 3) := by decide +kernel
theorem e_M_begin_291 : q_M_begin S (f + 1) 291 L (.int y :: .int x :: st) h = ((¬ x.toInt = y.toInt → q_M_begin S f 323 L st h) ∧ (¬ (¬ x.toInt = y.toInt) → q_M_begin S f 294 L st h)) := by rw [q_M_begin, hz_w_at d_M_begin_291]; rfl
theorem d_M_begin_294 : decode c_M_begin 294 = .ok (.aload_n 0, 1) := by decide +kernel
theorem e_M_begin_294 {a1 a2 a3 a4 a5 : Option Value} : q_M_begin S (f + 1) 294 [some (.ref i), a1, a2, a3, a4, a5] st h = (q_M_begin S f 295 [some (.ref i), a1, a2, a3, a4, a5] (.ref i :: st) h) := by rw [q_M_begin, hz_w_at d_M_begin_294]; rfl
theorem e_M_begin_294n {a1 a2 a3 a4 a5 : Option Value} : q_M_begin S (f + 1) 294 [some .null, a1, a2, a3, a4, a5] st h = (q_M_begin S f 295 [some .null, a1, a2, a3, a4, a5] (.null :: st) h) := by rw [q_M_begin, hz_w_at d_M_begin_294]; rfl
theorem d_M_begin_295 : decode c_M_begin 295 = .ok (.bipush 10, 2) := by decide +kernel
theorem e_M_begin_295 : q_M_begin S (f + 1) 295 L st h = (q_M_begin S f 297 L (.int (hz_n 10) :: st) h) := by rw [q_M_begin, hz_w_at d_M_begin_295]; rfl
theorem d_M_begin_297 : decode c_M_begin 297 = .ok (.iconst 0, 1) := by decide +kernel
theorem e_M_begin_297 : q_M_begin S (f + 1) 297 L st h = (q_M_begin S f 298 L (.int (hz_n 0) :: st) h) := by rw [q_M_begin, hz_w_at d_M_begin_297]; rfl
theorem d_M_begin_298 : decode c_M_begin 298 = .ok (.iload_n 2, 1) := by decide +kernel
theorem e_M_begin_298 {a0 a1 a3 a4 a5 : Option Value} : q_M_begin S (f + 1) 298 [a0, a1, some (.int x), a3, a4, a5] st h = (q_M_begin S f 299 [a0, a1, some (.int x), a3, a4, a5] (.int x :: st) h) := by rw [q_M_begin, hz_w_at d_M_begin_298]; rfl
theorem d_M_begin_299 : decode c_M_begin 299 = .ok (.invokevirtual 104, 3) := by decide +kernel
theorem e_M_begin_299 : q_M_begin S (f + 1) 299 L st h = (S 299 L st h) := by rw [q_M_begin, hz_w_at d_M_begin_299]; rfl
theorem d_M_begin_302 : decode c_M_begin 302 = .ok (.istore 5, 2) := by decide +kernel
theorem e_M_begin_302 {a0 a1 a2 a3 a4 a5 : Option Value} : q_M_begin S (f + 1) 302 [a0, a1, a2, a3, a4, a5] (.int x :: st) h = (q_M_begin S f 304 [a0, a1, a2, a3, a4, some (.int x)] st h) := by rw [q_M_begin, hz_w_at d_M_begin_302]; rfl
theorem d_M_begin_304 : decode c_M_begin 304 = .ok (.aload_n 0, 1) := by decide +kernel
theorem e_M_begin_304 {a1 a2 a3 a4 a5 : Option Value} : q_M_begin S (f + 1) 304 [some (.ref i), a1, a2, a3, a4, a5] st h = (q_M_begin S f 305 [some (.ref i), a1, a2, a3, a4, a5] (.ref i :: st) h) := by rw [q_M_begin, hz_w_at d_M_begin_304]; rfl
theorem e_M_begin_304n {a1 a2 a3 a4 a5 : Option Value} : q_M_begin S (f + 1) 304 [some .null, a1, a2, a3, a4, a5] st h = (q_M_begin S f 305 [some .null, a1, a2, a3, a4, a5] (.null :: st) h) := by rw [q_M_begin, hz_w_at d_M_begin_304]; rfl
theorem d_M_begin_305 : decode c_M_begin 305 = .ok (.iconst 2, 1) := by decide +kernel
theorem e_M_begin_305 : q_M_begin S (f + 1) 305 L st h = (q_M_begin S f 306 L (.int (hz_n 2) :: st) h) := by rw [q_M_begin, hz_w_at d_M_begin_305]; rfl
theorem d_M_begin_306 : decode c_M_begin 306 = .ok (.iload_n 3, 1) := by decide +kernel
theorem e_M_begin_306 {a0 a1 a2 a4 a5 : Option Value} : q_M_begin S (f + 1) 306 [a0, a1, a2, some (.int x), a4, a5] st h = (q_M_begin S f 307 [a0, a1, a2, some (.int x), a4, a5] (.int x :: st) h) := by rw [q_M_begin, hz_w_at d_M_begin_306]; rfl
theorem d_M_begin_307 : decode c_M_begin 307 = .ok (.iconst 1, 1) := by decide +kernel
theorem e_M_begin_307 : q_M_begin S (f + 1) 307 L st h = (q_M_begin S f 308 L (.int (hz_n 1) :: st) h) := by rw [q_M_begin, hz_w_at d_M_begin_307]; rfl
theorem d_M_begin_308 : decode c_M_begin 308 = .ok (.iadd, 1) := by decide +kernel
theorem e_M_begin_308 : q_M_begin S (f + 1) 308 L (.int y :: .int x :: st) h = (q_M_begin S f 309 L (.int (x + y) :: st) h) := by rw [q_M_begin, hz_w_at d_M_begin_308]; rfl
theorem d_M_begin_309 : decode c_M_begin 309 = .ok (.invokevirtual 108, 3) := by decide +kernel
theorem e_M_begin_309 : q_M_begin S (f + 1) 309 L st h = (S 309 L st h) := by rw [q_M_begin, hz_w_at d_M_begin_309]; rfl
theorem d_M_begin_312 : decode c_M_begin 312 = .ok (.aload_n 0, 1) := by decide +kernel
theorem e_M_begin_312 {a1 a2 a3 a4 a5 : Option Value} : q_M_begin S (f + 1) 312 [some (.ref i), a1, a2, a3, a4, a5] st h = (q_M_begin S f 313 [some (.ref i), a1, a2, a3, a4, a5] (.ref i :: st) h) := by rw [q_M_begin, hz_w_at d_M_begin_312]; rfl
theorem e_M_begin_312n {a1 a2 a3 a4 a5 : Option Value} : q_M_begin S (f + 1) 312 [some .null, a1, a2, a3, a4, a5] st h = (q_M_begin S f 313 [some .null, a1, a2, a3, a4, a5] (.null :: st) h) := by rw [q_M_begin, hz_w_at d_M_begin_312]; rfl
theorem d_M_begin_313 : decode c_M_begin 313 = .ok (.iconst 4, 1) := by decide +kernel
theorem e_M_begin_313 : q_M_begin S (f + 1) 313 L st h = (q_M_begin S f 314 L (.int (hz_n 4) :: st) h) := by rw [q_M_begin, hz_w_at d_M_begin_313]; rfl
theorem d_M_begin_314 : decode c_M_begin 314 = .ok (.iload 5, 2) := by decide +kernel
theorem e_M_begin_314 {a0 a1 a2 a3 a4 : Option Value} : q_M_begin S (f + 1) 314 [a0, a1, a2, a3, a4, some (.int x)] st h = (q_M_begin S f 316 [a0, a1, a2, a3, a4, some (.int x)] (.int x :: st) h) := by rw [q_M_begin, hz_w_at d_M_begin_314]; rfl
theorem d_M_begin_316 : decode c_M_begin 316 = .ok (.iload_n 3, 1) := by decide +kernel
theorem e_M_begin_316 {a0 a1 a2 a4 a5 : Option Value} : q_M_begin S (f + 1) 316 [a0, a1, a2, some (.int x), a4, a5] st h = (q_M_begin S f 317 [a0, a1, a2, some (.int x), a4, a5] (.int x :: st) h) := by rw [q_M_begin, hz_w_at d_M_begin_316]; rfl
theorem d_M_begin_317 : decode c_M_begin 317 = .ok (.invokevirtual 93, 3) := by decide +kernel
theorem e_M_begin_317 : q_M_begin S (f + 1) 317 L st h = (S 317 L st h) := by rw [q_M_begin, hz_w_at d_M_begin_317]; rfl
theorem d_M_begin_320 : decode c_M_begin 320 = .ok (.goto 5, 3) := by decide +kernel
theorem e_M_begin_320 : q_M_begin S (f + 1) 320 L st h = (q_M_begin S f 325 L st h) := by rw [q_M_begin, hz_w_at d_M_begin_320]; rfl
theorem d_M_begin_323 : decode c_M_begin 323 = .ok (.iconst 0, 1) := by decide +kernel
theorem e_M_begin_323 : q_M_begin S (f + 1) 323 L st h = (q_M_begin S f 324 L (.int (hz_n 0) :: st) h) := by rw [q_M_begin, hz_w_at d_M_begin_323]; rfl
theorem d_M_begin_324 : decode c_M_begin 324 = .ok (.ireturn, 1) := by decide +kernel
theorem e_M_begin_324 : q_M_begin S (f + 1) 324 L st h = (S 324 L st h) := by rw [q_M_begin, hz_w_at d_M_begin_324]; rfl
theorem d_M_begin_325 : decode c_M_begin 325 = .ok (.iconst 1, 1) := by decide +kernel
theorem e_M_begin_325 : q_M_begin S (f + 1) 325 L st h = (q_M_begin S f 326 L (.int (hz_n 1) :: st) h) := by rw [q_M_begin, hz_w_at d_M_begin_325]; rfl
theorem d_M_begin_326 : decode c_M_begin 326 = .ok (.ireturn, 1) := by decide +kernel
theorem e_M_begin_326 : q_M_begin S (f + 1) 326 L st h = (S 326 L st h) := by rw [q_M_begin, hz_w_at d_M_begin_326]; rfl
end
abbrev q_M_take (S : Nat → List (Option Value) → List Value → hz_H → Prop) := hz_w zCl zKT f_M n_M c_M_take [] S
section
variable {S : Nat → List (Option Value) → List Value → hz_H → Prop} {f : Nat} {L : List (Option Value)} {st : List Value} {h : hz_H} {x y : Int32} {i j : Nat} {X Y : Int64}
theorem d_M_take_0 : decode c_M_take 0 = .ok (.aload_n 0, 1) := by decide +kernel
theorem e_M_take_0 {a1 a2 a3 a4 : Option Value} : q_M_take S (f + 1) 0 [some (.ref i), a1, a2, a3, a4] st h = (q_M_take S f 1 [some (.ref i), a1, a2, a3, a4] (.ref i :: st) h) := by rw [q_M_take, hz_w_at d_M_take_0]; rfl
theorem e_M_take_0n {a1 a2 a3 a4 : Option Value} : q_M_take S (f + 1) 0 [some .null, a1, a2, a3, a4] st h = (q_M_take S f 1 [some .null, a1, a2, a3, a4] (.null :: st) h) := by rw [q_M_take, hz_w_at d_M_take_0]; rfl
theorem d_M_take_1 : decode c_M_take 1 = .ok (.getfield 87, 3) := by decide +kernel
theorem e_M_take_1 : q_M_take S (f + 1) 1 L (.ref i :: st) h = (hz_rd h i 5 13 fun v => q_M_take S f 4 L (v :: st) h) := by rw [q_M_take, hz_w_at d_M_take_1]; rfl
theorem d_M_take_4 : decode c_M_take 4 = .ok (.ifCond .ne 5, 3) := by decide +kernel
theorem e_M_take_4 : q_M_take S (f + 1) 4 L (.int x :: st) h = ((¬ x.toInt = 0 → q_M_take S f 9 L st h) ∧ (¬ (¬ x.toInt = 0) → q_M_take S f 7 L st h)) := by rw [q_M_take, hz_w_at d_M_take_4]; rfl
theorem d_M_take_7 : decode c_M_take 7 = .ok (.iconst 0, 1) := by decide +kernel
theorem e_M_take_7 : q_M_take S (f + 1) 7 L st h = (q_M_take S f 8 L (.int (hz_n 0) :: st) h) := by rw [q_M_take, hz_w_at d_M_take_7]; rfl
theorem d_M_take_8 : decode c_M_take 8 = .ok (.ireturn, 1) := by decide +kernel
theorem e_M_take_8 : q_M_take S (f + 1) 8 L st h = (S 8 L st h) := by rw [q_M_take, hz_w_at d_M_take_8]; rfl
theorem d_M_take_9 : decode c_M_take 9 = .ok (.aload_n 0, 1) := by decide +kernel
theorem e_M_take_9 {a1 a2 a3 a4 : Option Value} : q_M_take S (f + 1) 9 [some (.ref i), a1, a2, a3, a4] st h = (q_M_take S f 10 [some (.ref i), a1, a2, a3, a4] (.ref i :: st) h) := by rw [q_M_take, hz_w_at d_M_take_9]; rfl
theorem e_M_take_9n {a1 a2 a3 a4 : Option Value} : q_M_take S (f + 1) 9 [some .null, a1, a2, a3, a4] st h = (q_M_take S f 10 [some .null, a1, a2, a3, a4] (.null :: st) h) := by rw [q_M_take, hz_w_at d_M_take_9]; rfl
theorem d_M_take_10 : decode c_M_take 10 = .ok (.dup, 1) := by decide +kernel
theorem e_M_take_10 : q_M_take S (f + 1) 10 L (.ref i :: st) h = (q_M_take S f 11 L (.ref i :: .ref i :: st) h) := by rw [q_M_take, hz_w_at d_M_take_10]; rfl
theorem e_M_take_10i : q_M_take S (f + 1) 10 L (.int x :: st) h = (q_M_take S f 11 L (.int x :: .int x :: st) h) := by rw [q_M_take, hz_w_at d_M_take_10]; rfl
theorem d_M_take_11 : decode c_M_take 11 = .ok (.getfield 87, 3) := by decide +kernel
theorem e_M_take_11 : q_M_take S (f + 1) 11 L (.ref i :: st) h = (hz_rd h i 5 13 fun v => q_M_take S f 14 L (v :: st) h) := by rw [q_M_take, hz_w_at d_M_take_11]; rfl
theorem d_M_take_14 : decode c_M_take 14 = .ok (.iconst 1, 1) := by decide +kernel
theorem e_M_take_14 : q_M_take S (f + 1) 14 L st h = (q_M_take S f 15 L (.int (hz_n 1) :: st) h) := by rw [q_M_take, hz_w_at d_M_take_14]; rfl
theorem d_M_take_15 : decode c_M_take 15 = .ok (.isub, 1) := by decide +kernel
theorem e_M_take_15 : q_M_take S (f + 1) 15 L (.int y :: .int x :: st) h = (q_M_take S f 16 L (.int (x - y) :: st) h) := by rw [q_M_take, hz_w_at d_M_take_15]; rfl
theorem d_M_take_16 : decode c_M_take 16 = .ok (.putfield 87, 3) := by decide +kernel
theorem e_M_take_16 : q_M_take S (f + 1) 16 L (.int x :: .ref i :: st) h = (hz_wr h i 5 13 (.int x) fun h => q_M_take S f 19 L st h) := by rw [q_M_take, hz_w_at d_M_take_16]; rfl
theorem d_M_take_19 : decode c_M_take 19 = .ok (.aload_n 0, 1) := by decide +kernel
theorem e_M_take_19 {a1 a2 a3 a4 : Option Value} : q_M_take S (f + 1) 19 [some (.ref i), a1, a2, a3, a4] st h = (q_M_take S f 20 [some (.ref i), a1, a2, a3, a4] (.ref i :: st) h) := by rw [q_M_take, hz_w_at d_M_take_19]; rfl
theorem e_M_take_19n {a1 a2 a3 a4 : Option Value} : q_M_take S (f + 1) 19 [some .null, a1, a2, a3, a4] st h = (q_M_take S f 20 [some .null, a1, a2, a3, a4] (.null :: st) h) := by rw [q_M_take, hz_w_at d_M_take_19]; rfl
theorem d_M_take_20 : decode c_M_take 20 = .ok (.getfield 41, 3) := by decide +kernel
theorem e_M_take_20 : q_M_take S (f + 1) 20 L (.ref i :: st) h = (hz_rd h i 5 15 fun v => q_M_take S f 23 L (v :: st) h) := by rw [q_M_take, hz_w_at d_M_take_20]; rfl
theorem d_M_take_23 : decode c_M_take 23 = .ok (.aload_n 0, 1) := by decide +kernel
theorem e_M_take_23 {a1 a2 a3 a4 : Option Value} : q_M_take S (f + 1) 23 [some (.ref i), a1, a2, a3, a4] st h = (q_M_take S f 24 [some (.ref i), a1, a2, a3, a4] (.ref i :: st) h) := by rw [q_M_take, hz_w_at d_M_take_23]; rfl
theorem e_M_take_23n {a1 a2 a3 a4 : Option Value} : q_M_take S (f + 1) 23 [some .null, a1, a2, a3, a4] st h = (q_M_take S f 24 [some .null, a1, a2, a3, a4] (.null :: st) h) := by rw [q_M_take, hz_w_at d_M_take_23]; rfl
theorem d_M_take_24 : decode c_M_take 24 = .ok (.getfield 87, 3) := by decide +kernel
theorem e_M_take_24 : q_M_take S (f + 1) 24 L (.ref i :: st) h = (hz_rd h i 5 13 fun v => q_M_take S f 27 L (v :: st) h) := by rw [q_M_take, hz_w_at d_M_take_24]; rfl
theorem d_M_take_27 : decode c_M_take 27 = .ok (.iaload, 1) := by decide +kernel
theorem e_M_take_27 : q_M_take S (f + 1) 27 L (.int x :: .ref i :: st) h = (hz_ea zKT hz_kI h i x fun v => q_M_take S f 28 L (v :: st) h) := by rw [q_M_take, hz_w_at d_M_take_27]; rfl
theorem d_M_take_28 : decode c_M_take 28 = .ok (.istore_n 3, 1) := by decide +kernel
theorem e_M_take_28 {a0 a1 a2 a3 a4 : Option Value} : q_M_take S (f + 1) 28 [a0, a1, a2, a3, a4] (.int x :: st) h = (q_M_take S f 29 [a0, a1, a2, some (.int x), a4] st h) := by rw [q_M_take, hz_w_at d_M_take_28]; rfl
theorem d_M_take_29 : decode c_M_take 29 = .ok (.aload_n 0, 1) := by decide +kernel
theorem e_M_take_29 {a1 a2 a3 a4 : Option Value} : q_M_take S (f + 1) 29 [some (.ref i), a1, a2, a3, a4] st h = (q_M_take S f 30 [some (.ref i), a1, a2, a3, a4] (.ref i :: st) h) := by rw [q_M_take, hz_w_at d_M_take_29]; rfl
theorem e_M_take_29n {a1 a2 a3 a4 : Option Value} : q_M_take S (f + 1) 29 [some .null, a1, a2, a3, a4] st h = (q_M_take S f 30 [some .null, a1, a2, a3, a4] (.null :: st) h) := by rw [q_M_take, hz_w_at d_M_take_29]; rfl
theorem d_M_take_30 : decode c_M_take 30 = .ok (.getfield 44, 3) := by decide +kernel
theorem e_M_take_30 : q_M_take S (f + 1) 30 L (.ref i :: st) h = (hz_rd h i 5 16 fun v => q_M_take S f 33 L (v :: st) h) := by rw [q_M_take, hz_w_at d_M_take_30]; rfl
theorem d_M_take_33 : decode c_M_take 33 = .ok (.aload_n 0, 1) := by decide +kernel
theorem e_M_take_33 {a1 a2 a3 a4 : Option Value} : q_M_take S (f + 1) 33 [some (.ref i), a1, a2, a3, a4] st h = (q_M_take S f 34 [some (.ref i), a1, a2, a3, a4] (.ref i :: st) h) := by rw [q_M_take, hz_w_at d_M_take_33]; rfl
theorem e_M_take_33n {a1 a2 a3 a4 : Option Value} : q_M_take S (f + 1) 33 [some .null, a1, a2, a3, a4] st h = (q_M_take S f 34 [some .null, a1, a2, a3, a4] (.null :: st) h) := by rw [q_M_take, hz_w_at d_M_take_33]; rfl
theorem d_M_take_34 : decode c_M_take 34 = .ok (.getfield 87, 3) := by decide +kernel
theorem e_M_take_34 : q_M_take S (f + 1) 34 L (.ref i :: st) h = (hz_rd h i 5 13 fun v => q_M_take S f 37 L (v :: st) h) := by rw [q_M_take, hz_w_at d_M_take_34]; rfl
theorem d_M_take_37 : decode c_M_take 37 = .ok (.iaload, 1) := by decide +kernel
theorem e_M_take_37 : q_M_take S (f + 1) 37 L (.int x :: .ref i :: st) h = (hz_ea zKT hz_kI h i x fun v => q_M_take S f 38 L (v :: st) h) := by rw [q_M_take, hz_w_at d_M_take_37]; rfl
theorem d_M_take_38 : decode c_M_take 38 = .ok (.istore 4, 2) := by decide +kernel
theorem e_M_take_38 {a0 a1 a2 a3 a4 : Option Value} : q_M_take S (f + 1) 38 [a0, a1, a2, a3, a4] (.int x :: st) h = (q_M_take S f 40 [a0, a1, a2, a3, some (.int x)] st h) := by rw [q_M_take, hz_w_at d_M_take_38]; rfl
theorem d_M_take_40 : decode c_M_take 40 = .ok (.aload_n 0, 1) := by decide +kernel
theorem e_M_take_40 {a1 a2 a3 a4 : Option Value} : q_M_take S (f + 1) 40 [some (.ref i), a1, a2, a3, a4] st h = (q_M_take S f 41 [some (.ref i), a1, a2, a3, a4] (.ref i :: st) h) := by rw [q_M_take, hz_w_at d_M_take_40]; rfl
theorem e_M_take_40n {a1 a2 a3 a4 : Option Value} : q_M_take S (f + 1) 40 [some .null, a1, a2, a3, a4] st h = (q_M_take S f 41 [some .null, a1, a2, a3, a4] (.null :: st) h) := by rw [q_M_take, hz_w_at d_M_take_40]; rfl
theorem d_M_take_41 : decode c_M_take 41 = .ok (.getfield 38, 3) := by decide +kernel
theorem e_M_take_41 : q_M_take S (f + 1) 41 L (.ref i :: st) h = (hz_rd h i 5 14 fun v => q_M_take S f 44 L (v :: st) h) := by rw [q_M_take, hz_w_at d_M_take_41]; rfl
theorem d_M_take_44 : decode c_M_take 44 = .ok (.aload_n 0, 1) := by decide +kernel
theorem e_M_take_44 {a1 a2 a3 a4 : Option Value} : q_M_take S (f + 1) 44 [some (.ref i), a1, a2, a3, a4] st h = (q_M_take S f 45 [some (.ref i), a1, a2, a3, a4] (.ref i :: st) h) := by rw [q_M_take, hz_w_at d_M_take_44]; rfl
theorem e_M_take_44n {a1 a2 a3 a4 : Option Value} : q_M_take S (f + 1) 44 [some .null, a1, a2, a3, a4] st h = (q_M_take S f 45 [some .null, a1, a2, a3, a4] (.null :: st) h) := by rw [q_M_take, hz_w_at d_M_take_44]; rfl
theorem d_M_take_45 : decode c_M_take 45 = .ok (.getfield 87, 3) := by decide +kernel
theorem e_M_take_45 : q_M_take S (f + 1) 45 L (.ref i :: st) h = (hz_rd h i 5 13 fun v => q_M_take S f 48 L (v :: st) h) := by rw [q_M_take, hz_w_at d_M_take_45]; rfl
theorem d_M_take_48 : decode c_M_take 48 = .ok (.iaload, 1) := by decide +kernel
theorem e_M_take_48 : q_M_take S (f + 1) 48 L (.int x :: .ref i :: st) h = (hz_ea zKT hz_kI h i x fun v => q_M_take S f 49 L (v :: st) h) := by rw [q_M_take, hz_w_at d_M_take_48]; rfl
theorem d_M_take_49 : decode c_M_take 49 = .ok (.tableswitch 191 1 4 #[31, 105, 114, 176], 31) := by decide +kernel
theorem e_M_take_49 : q_M_take S (f + 1) 49 L (.int x :: st) h = (((x.toInt < 1 ∨ 4 < x.toInt) → q_M_take S f 240 L st h) ∧ (x.toInt = 1 → q_M_take S f 80 L st h) ∧ (x.toInt = 2 → q_M_take S f 154 L st h) ∧ (x.toInt = 3 → q_M_take S f 163 L st h) ∧ (x.toInt = 4 → q_M_take S f 225 L st h) ∧ True) := by rw [q_M_take, hz_w_at d_M_take_49]; rfl
theorem d_M_take_80 : decode c_M_take 80 = .ok (.iload_n 1, 1) := by decide +kernel
theorem e_M_take_80 {a0 a2 a3 a4 : Option Value} : q_M_take S (f + 1) 80 [a0, some (.int x), a2, a3, a4] st h = (q_M_take S f 81 [a0, some (.int x), a2, a3, a4] (.int x :: st) h) := by rw [q_M_take, hz_w_at d_M_take_80]; rfl
theorem d_M_take_81 : decode c_M_take 81 = .ok (.bipush 46, 2) := by decide +kernel
theorem e_M_take_81 : q_M_take S (f + 1) 81 L st h = (q_M_take S f 83 L (.int (hz_n 46) :: st) h) := by rw [q_M_take, hz_w_at d_M_take_81]; rfl
theorem d_M_take_83 : decode c_M_take 83 = .ok (.if_icmp .ne 12, 3) := by decide +kernel
theorem e_M_take_83 : q_M_take S (f + 1) 83 L (.int y :: .int x :: st) h = ((¬ x.toInt = y.toInt → q_M_take S f 95 L st h) ∧ (¬ (¬ x.toInt = y.toInt) → q_M_take S f 86 L st h)) := by rw [q_M_take, hz_w_at d_M_take_83]; rfl
theorem d_M_take_86 : decode c_M_take 86 = .ok (.aload_n 0, 1) := by decide +kernel
theorem e_M_take_86 {a1 a2 a3 a4 : Option Value} : q_M_take S (f + 1) 86 [some (.ref i), a1, a2, a3, a4] st h = (q_M_take S f 87 [some (.ref i), a1, a2, a3, a4] (.ref i :: st) h) := by rw [q_M_take, hz_w_at d_M_take_86]; rfl
theorem e_M_take_86n {a1 a2 a3 a4 : Option Value} : q_M_take S (f + 1) 86 [some .null, a1, a2, a3, a4] st h = (q_M_take S f 87 [some .null, a1, a2, a3, a4] (.null :: st) h) := by rw [q_M_take, hz_w_at d_M_take_86]; rfl
theorem d_M_take_87 : decode c_M_take 87 = .ok (.iconst 2, 1) := by decide +kernel
theorem e_M_take_87 : q_M_take S (f + 1) 87 L st h = (q_M_take S f 88 L (.int (hz_n 2) :: st) h) := by rw [q_M_take, hz_w_at d_M_take_87]; rfl
theorem d_M_take_88 : decode c_M_take 88 = .ok (.iconst 0, 1) := by decide +kernel
theorem e_M_take_88 : q_M_take S (f + 1) 88 L st h = (q_M_take S f 89 L (.int (hz_n 0) :: st) h) := by rw [q_M_take, hz_w_at d_M_take_88]; rfl
theorem d_M_take_89 : decode c_M_take 89 = .ok (.iconst 1, 1) := by decide +kernel
theorem e_M_take_89 : q_M_take S (f + 1) 89 L st h = (q_M_take S f 90 L (.int (hz_n 1) :: st) h) := by rw [q_M_take, hz_w_at d_M_take_89]; rfl
theorem d_M_take_90 : decode c_M_take 90 = .ok (.invokevirtual 93, 3) := by decide +kernel
theorem e_M_take_90 : q_M_take S (f + 1) 90 L st h = (S 90 L st h) := by rw [q_M_take, hz_w_at d_M_take_90]; rfl
theorem d_M_take_93 : decode c_M_take 93 = .ok (.iconst 1, 1) := by decide +kernel
theorem e_M_take_93 : q_M_take S (f + 1) 93 L st h = (q_M_take S f 94 L (.int (hz_n 1) :: st) h) := by rw [q_M_take, hz_w_at d_M_take_93]; rfl
theorem d_M_take_94 : decode c_M_take 94 = .ok (.ireturn, 1) := by decide +kernel
theorem e_M_take_94 : q_M_take S (f + 1) 94 L st h = (S 94 L st h) := by rw [q_M_take, hz_w_at d_M_take_94]; rfl
theorem d_M_take_95 : decode c_M_take 95 = .ok (.iload_n 1, 1) := by decide +kernel
theorem e_M_take_95 {a0 a2 a3 a4 : Option Value} : q_M_take S (f + 1) 95 [a0, some (.int x), a2, a3, a4] st h = (q_M_take S f 96 [a0, some (.int x), a2, a3, a4] (.int x :: st) h) := by rw [q_M_take, hz_w_at d_M_take_95]; rfl
theorem d_M_take_96 : decode c_M_take 96 = .ok (.invokestatic 97, 3) := by decide +kernel
theorem e_M_take_96 : q_M_take S (f + 1) 96 L st h = (S 96 L st h) := by rw [q_M_take, hz_w_at d_M_take_96]; rfl
theorem d_M_take_99 : decode c_M_take 99 = .ok (.ifCond .eq 14, 3) := by decide +kernel
theorem e_M_take_99 : q_M_take S (f + 1) 99 L (.int x :: st) h = ((x.toInt = 0 → q_M_take S f 113 L st h) ∧ (¬ (x.toInt = 0) → q_M_take S f 102 L st h)) := by rw [q_M_take, hz_w_at d_M_take_99]; rfl
theorem d_M_take_102 : decode c_M_take 102 = .ok (.aload_n 0, 1) := by decide +kernel
theorem e_M_take_102 {a1 a2 a3 a4 : Option Value} : q_M_take S (f + 1) 102 [some (.ref i), a1, a2, a3, a4] st h = (q_M_take S f 103 [some (.ref i), a1, a2, a3, a4] (.ref i :: st) h) := by rw [q_M_take, hz_w_at d_M_take_102]; rfl
theorem e_M_take_102n {a1 a2 a3 a4 : Option Value} : q_M_take S (f + 1) 102 [some .null, a1, a2, a3, a4] st h = (q_M_take S f 103 [some .null, a1, a2, a3, a4] (.null :: st) h) := by rw [q_M_take, hz_w_at d_M_take_102]; rfl
theorem d_M_take_103 : decode c_M_take 103 = .ok (.getfield 20, 3) := by decide +kernel
theorem e_M_take_103 : q_M_take S (f + 1) 103 L (.ref i :: st) h = (hz_rd h i 5 6 fun v => q_M_take S f 106 L (v :: st) h) := by rw [q_M_take, hz_w_at d_M_take_103]; rfl
theorem d_M_take_106 : decode c_M_take 106 = .ok (.bipush 26, 2) := by decide +kernel
theorem e_M_take_106 : q_M_take S (f + 1) 106 L st h = (q_M_take S f 108 L (.int (hz_n 26) :: st) h) := by rw [q_M_take, hz_w_at d_M_take_106]; rfl
theorem d_M_take_108 : decode c_M_take 108 = .ok (.iaload, 1) := by decide +kernel
theorem e_M_take_108 : q_M_take S (f + 1) 108 L (.int x :: .ref i :: st) h = (hz_ea zKT hz_kI h i x fun v => q_M_take S f 109 L (v :: st) h) := by rw [q_M_take, hz_w_at d_M_take_108]; rfl
theorem d_M_take_109 : decode c_M_take 109 = .ok (.iconst 4, 1) := by decide +kernel
theorem e_M_take_109 : q_M_take S (f + 1) 109 L st h = (q_M_take S f 110 L (.int (hz_n 4) :: st) h) := by rw [q_M_take, hz_w_at d_M_take_109]; rfl
theorem d_M_take_110 : decode c_M_take 110 = .ok (.if_icmp .ne 5, 3) := by decide +kernel
theorem e_M_take_110 : q_M_take S (f + 1) 110 L (.int y :: .int x :: st) h = ((¬ x.toInt = y.toInt → q_M_take S f 115 L st h) ∧ (¬ (¬ x.toInt = y.toInt) → q_M_take S f 113 L st h)) := by rw [q_M_take, hz_w_at d_M_take_110]; rfl
theorem d_M_take_113 : decode c_M_take 113 = .ok (.iconst 0, 1) := by decide +kernel
theorem e_M_take_113 : q_M_take S (f + 1) 113 L st h = (q_M_take S f 114 L (.int (hz_n 0) :: st) h) := by rw [q_M_take, hz_w_at d_M_take_113]; rfl
theorem d_M_take_114 : decode c_M_take 114 = .ok (.ireturn, 1) := by decide +kernel
theorem e_M_take_114 : q_M_take S (f + 1) 114 L st h = (S 114 L st h) := by rw [q_M_take, hz_w_at d_M_take_114]; rfl
theorem d_M_take_115 : decode c_M_take 115 = .ok (.aload_n 0, 1) := by decide +kernel
theorem e_M_take_115 {a1 a2 a3 a4 : Option Value} : q_M_take S (f + 1) 115 [some (.ref i), a1, a2, a3, a4] st h = (q_M_take S f 116 [some (.ref i), a1, a2, a3, a4] (.ref i :: st) h) := by rw [q_M_take, hz_w_at d_M_take_115]; rfl
theorem e_M_take_115n {a1 a2 a3 a4 : Option Value} : q_M_take S (f + 1) 115 [some .null, a1, a2, a3, a4] st h = (q_M_take S f 116 [some .null, a1, a2, a3, a4] (.null :: st) h) := by rw [q_M_take, hz_w_at d_M_take_115]; rfl
theorem d_M_take_116 : decode c_M_take 116 = .ok (.getfield 23, 3) := by decide +kernel
theorem e_M_take_116 : q_M_take S (f + 1) 116 L (.ref i :: st) h = (hz_rd h i 5 7 fun v => q_M_take S f 119 L (v :: st) h) := by rw [q_M_take, hz_w_at d_M_take_116]; rfl
theorem d_M_take_119 : decode c_M_take 119 = .ok (.bipush 104, 2) := by decide +kernel
theorem e_M_take_119 : q_M_take S (f + 1) 119 L st h = (q_M_take S f 121 L (.int (hz_n 104) :: st) h) := by rw [q_M_take, hz_w_at d_M_take_119]; rfl
theorem d_M_take_121 : decode c_M_take 121 = .ok (.aload_n 0, 1) := by decide +kernel
theorem e_M_take_121 {a1 a2 a3 a4 : Option Value} : q_M_take S (f + 1) 121 [some (.ref i), a1, a2, a3, a4] st h = (q_M_take S f 122 [some (.ref i), a1, a2, a3, a4] (.ref i :: st) h) := by rw [q_M_take, hz_w_at d_M_take_121]; rfl
theorem e_M_take_121n {a1 a2 a3 a4 : Option Value} : q_M_take S (f + 1) 121 [some .null, a1, a2, a3, a4] st h = (q_M_take S f 122 [some .null, a1, a2, a3, a4] (.null :: st) h) := by rw [q_M_take, hz_w_at d_M_take_121]; rfl
theorem d_M_take_122 : decode c_M_take 122 = .ok (.getfield 20, 3) := by decide +kernel
theorem e_M_take_122 : q_M_take S (f + 1) 122 L (.ref i :: st) h = (hz_rd h i 5 6 fun v => q_M_take S f 125 L (v :: st) h) := by rw [q_M_take, hz_w_at d_M_take_122]; rfl
theorem d_M_take_125 : decode c_M_take 125 = .ok (.bipush 26, 2) := by decide +kernel
theorem e_M_take_125 : q_M_take S (f + 1) 125 L st h = (q_M_take S f 127 L (.int (hz_n 26) :: st) h) := by rw [q_M_take, hz_w_at d_M_take_125]; rfl
theorem d_M_take_127 : decode c_M_take 127 = .ok (.iaload, 1) := by decide +kernel
theorem e_M_take_127 : q_M_take S (f + 1) 127 L (.int x :: .ref i :: st) h = (hz_ea zKT hz_kI h i x fun v => q_M_take S f 128 L (v :: st) h) := by rw [q_M_take, hz_w_at d_M_take_127]; rfl
theorem d_M_take_128 : decode c_M_take 128 = .ok (.iadd, 1) := by decide +kernel
theorem e_M_take_128 : q_M_take S (f + 1) 128 L (.int y :: .int x :: st) h = (q_M_take S f 129 L (.int (x + y) :: st) h) := by rw [q_M_take, hz_w_at d_M_take_128]; rfl
theorem d_M_take_129 : decode c_M_take 129 = .ok (.iload_n 1, 1) := by decide +kernel
theorem e_M_take_129 {a0 a2 a3 a4 : Option Value} : q_M_take S (f + 1) 129 [a0, some (.int x), a2, a3, a4] st h = (q_M_take S f 130 [a0, some (.int x), a2, a3, a4] (.int x :: st) h) := by rw [q_M_take, hz_w_at d_M_take_129]; rfl
theorem d_M_take_130 : decode c_M_take 130 = .ok (.bipush 97, 2) := by decide +kernel
theorem e_M_take_130 : q_M_take S (f + 1) 130 L st h = (q_M_take S f 132 L (.int (hz_n 97) :: st) h) := by rw [q_M_take, hz_w_at d_M_take_130]; rfl
theorem d_M_take_132 : decode c_M_take 132 = .ok (.isub, 1) := by decide +kernel
theorem e_M_take_132 : q_M_take S (f + 1) 132 L (.int y :: .int x :: st) h = (q_M_take S f 133 L (.int (x - y) :: st) h) := by rw [q_M_take, hz_w_at d_M_take_132]; rfl
theorem d_M_take_133 : decode c_M_take 133 = .ok (.iastore, 1) := by decide +kernel
theorem e_M_take_133 : q_M_take S (f + 1) 133 L (.int y :: .int x :: .ref i :: st) h = (hz_es zKT hz_kI h i x (.int y) fun h => q_M_take S f 134 L st h) := by rw [q_M_take, hz_w_at d_M_take_133]; rfl
theorem d_M_take_134 : decode c_M_take 134 = .ok (.aload_n 0, 1) := by decide +kernel
theorem e_M_take_134 {a1 a2 a3 a4 : Option Value} : q_M_take S (f + 1) 134 [some (.ref i), a1, a2, a3, a4] st h = (q_M_take S f 135 [some (.ref i), a1, a2, a3, a4] (.ref i :: st) h) := by rw [q_M_take, hz_w_at d_M_take_134]; rfl
theorem e_M_take_134n {a1 a2 a3 a4 : Option Value} : q_M_take S (f + 1) 134 [some .null, a1, a2, a3, a4] st h = (q_M_take S f 135 [some .null, a1, a2, a3, a4] (.null :: st) h) := by rw [q_M_take, hz_w_at d_M_take_134]; rfl
theorem d_M_take_135 : decode c_M_take 135 = .ok (.getfield 20, 3) := by decide +kernel
theorem e_M_take_135 : q_M_take S (f + 1) 135 L (.ref i :: st) h = (hz_rd h i 5 6 fun v => q_M_take S f 138 L (v :: st) h) := by rw [q_M_take, hz_w_at d_M_take_135]; rfl
theorem d_M_take_138 : decode c_M_take 138 = .ok (.bipush 26, 2) := by decide +kernel
theorem e_M_take_138 : q_M_take S (f + 1) 138 L st h = (q_M_take S f 140 L (.int (hz_n 26) :: st) h) := by rw [q_M_take, hz_w_at d_M_take_138]; rfl
theorem d_M_take_140 : decode c_M_take 140 = .ok (.dup2, 1) := by decide +kernel
theorem e_M_take_140 : q_M_take S (f + 1) 140 L (.int x :: .ref i :: st) h = (q_M_take S f 141 L (.int x :: .ref i :: .int x :: .ref i :: st) h) := by rw [q_M_take, hz_w_at d_M_take_140]; rfl
theorem d_M_take_141 : decode c_M_take 141 = .ok (.iaload, 1) := by decide +kernel
theorem e_M_take_141 : q_M_take S (f + 1) 141 L (.int x :: .ref i :: st) h = (hz_ea zKT hz_kI h i x fun v => q_M_take S f 142 L (v :: st) h) := by rw [q_M_take, hz_w_at d_M_take_141]; rfl
theorem d_M_take_142 : decode c_M_take 142 = .ok (.iconst 1, 1) := by decide +kernel
theorem e_M_take_142 : q_M_take S (f + 1) 142 L st h = (q_M_take S f 143 L (.int (hz_n 1) :: st) h) := by rw [q_M_take, hz_w_at d_M_take_142]; rfl
theorem d_M_take_143 : decode c_M_take 143 = .ok (.iadd, 1) := by decide +kernel
theorem e_M_take_143 : q_M_take S (f + 1) 143 L (.int y :: .int x :: st) h = (q_M_take S f 144 L (.int (x + y) :: st) h) := by rw [q_M_take, hz_w_at d_M_take_143]; rfl
theorem d_M_take_144 : decode c_M_take 144 = .ok (.iastore, 1) := by decide +kernel
theorem e_M_take_144 : q_M_take S (f + 1) 144 L (.int y :: .int x :: .ref i :: st) h = (hz_es zKT hz_kI h i x (.int y) fun h => q_M_take S f 145 L st h) := by rw [q_M_take, hz_w_at d_M_take_144]; rfl
theorem d_M_take_145 : decode c_M_take 145 = .ok (.aload_n 0, 1) := by decide +kernel
theorem e_M_take_145 {a1 a2 a3 a4 : Option Value} : q_M_take S (f + 1) 145 [some (.ref i), a1, a2, a3, a4] st h = (q_M_take S f 146 [some (.ref i), a1, a2, a3, a4] (.ref i :: st) h) := by rw [q_M_take, hz_w_at d_M_take_145]; rfl
theorem e_M_take_145n {a1 a2 a3 a4 : Option Value} : q_M_take S (f + 1) 145 [some .null, a1, a2, a3, a4] st h = (q_M_take S f 146 [some .null, a1, a2, a3, a4] (.null :: st) h) := by rw [q_M_take, hz_w_at d_M_take_145]; rfl
theorem d_M_take_146 : decode c_M_take 146 = .ok (.iconst 1, 1) := by decide +kernel
theorem e_M_take_146 : q_M_take S (f + 1) 146 L st h = (q_M_take S f 147 L (.int (hz_n 1) :: st) h) := by rw [q_M_take, hz_w_at d_M_take_146]; rfl
theorem d_M_take_147 : decode c_M_take 147 = .ok (.iconst 0, 1) := by decide +kernel
theorem e_M_take_147 : q_M_take S (f + 1) 147 L st h = (q_M_take S f 148 L (.int (hz_n 0) :: st) h) := by rw [q_M_take, hz_w_at d_M_take_147]; rfl
theorem d_M_take_148 : decode c_M_take 148 = .ok (.iconst 0, 1) := by decide +kernel
theorem e_M_take_148 : q_M_take S (f + 1) 148 L st h = (q_M_take S f 149 L (.int (hz_n 0) :: st) h) := by rw [q_M_take, hz_w_at d_M_take_148]; rfl
theorem d_M_take_149 : decode c_M_take 149 = .ok (.invokevirtual 93, 3) := by decide +kernel
theorem e_M_take_149 : q_M_take S (f + 1) 149 L st h = (S 149 L st h) := by rw [q_M_take, hz_w_at d_M_take_149]; rfl
theorem d_M_take_152 : decode c_M_take 152 = .ok (.iconst 1, 1) := by decide +kernel
theorem e_M_take_152 : q_M_take S (f + 1) 152 L st h = (q_M_take S f 153 L (.int (hz_n 1) :: st) h) := by rw [q_M_take, hz_w_at d_M_take_152]; rfl
theorem d_M_take_153 : decode c_M_take 153 = .ok (.ireturn, 1) := by decide +kernel
theorem e_M_take_153 : q_M_take S (f + 1) 153 L st h = (S 153 L st h) := by rw [q_M_take, hz_w_at d_M_take_153]; rfl
theorem d_M_take_154 : decode c_M_take 154 = .ok (.aload_n 0, 1) := by decide +kernel
theorem e_M_take_154 {a1 a2 a3 a4 : Option Value} : q_M_take S (f + 1) 154 [some (.ref i), a1, a2, a3, a4] st h = (q_M_take S f 155 [some (.ref i), a1, a2, a3, a4] (.ref i :: st) h) := by rw [q_M_take, hz_w_at d_M_take_154]; rfl
theorem e_M_take_154n {a1 a2 a3 a4 : Option Value} : q_M_take S (f + 1) 154 [some .null, a1, a2, a3, a4] st h = (q_M_take S f 155 [some .null, a1, a2, a3, a4] (.null :: st) h) := by rw [q_M_take, hz_w_at d_M_take_154]; rfl
theorem d_M_take_155 : decode c_M_take 155 = .ok (.iload_n 1, 1) := by decide +kernel
theorem e_M_take_155 {a0 a2 a3 a4 : Option Value} : q_M_take S (f + 1) 155 [a0, some (.int x), a2, a3, a4] st h = (q_M_take S f 156 [a0, some (.int x), a2, a3, a4] (.int x :: st) h) := by rw [q_M_take, hz_w_at d_M_take_155]; rfl
theorem d_M_take_156 : decode c_M_take 156 = .ok (.iload_n 2, 1) := by decide +kernel
theorem e_M_take_156 {a0 a1 a3 a4 : Option Value} : q_M_take S (f + 1) 156 [a0, a1, some (.int x), a3, a4] st h = (q_M_take S f 157 [a0, a1, some (.int x), a3, a4] (.int x :: st) h) := by rw [q_M_take, hz_w_at d_M_take_156]; rfl
theorem d_M_take_157 : decode c_M_take 157 = .ok (.iload 4, 2) := by decide +kernel
theorem e_M_take_157 {a0 a1 a2 a3 : Option Value} : q_M_take S (f + 1) 157 [a0, a1, a2, a3, some (.int x)] st h = (q_M_take S f 159 [a0, a1, a2, a3, some (.int x)] (.int x :: st) h) := by rw [q_M_take, hz_w_at d_M_take_157]; rfl
theorem d_M_take_159 : decode c_M_take 159 = .ok (.invokevirtual 115, 3) := by decide +kernel
theorem e_M_take_159 : q_M_take S (f + 1) 159 L st h = (S 159 L st h) := by rw [q_M_take, hz_w_at d_M_take_159]; rfl
theorem d_M_take_162 : decode c_M_take 162 = .ok (.ireturn, 1) := by decide +kernel
theorem e_M_take_162 : q_M_take S (f + 1) 162 L st h = (S 162 L st h) := by rw [q_M_take, hz_w_at d_M_take_162]; rfl
theorem d_M_take_163 : decode c_M_take 163 = .ok (.iload_n 1, 1) := by decide +kernel
theorem e_M_take_163 {a0 a2 a3 a4 : Option Value} : q_M_take S (f + 1) 163 [a0, some (.int x), a2, a3, a4] st h = (q_M_take S f 164 [a0, some (.int x), a2, a3, a4] (.int x :: st) h) := by rw [q_M_take, hz_w_at d_M_take_163]; rfl
theorem d_M_take_164 : decode c_M_take 164 = .ok (.bipush 41, 2) := by decide +kernel
theorem e_M_take_164 : q_M_take S (f + 1) 164 L st h = (q_M_take S f 166 L (.int (hz_n 41) :: st) h) := by rw [q_M_take, hz_w_at d_M_take_164]; rfl
theorem d_M_take_166 : decode c_M_take 166 = .ok (.if_icmp .ne 18, 3) := by decide +kernel
theorem e_M_take_166 : q_M_take S (f + 1) 166 L (.int y :: .int x :: st) h = ((¬ x.toInt = y.toInt → q_M_take S f 184 L st h) ∧ (¬ (¬ x.toInt = y.toInt) → q_M_take S f 169 L st h)) := by rw [q_M_take, hz_w_at d_M_take_166]; rfl
theorem d_M_take_169 : decode c_M_take 169 = .ok (.aload_n 0, 1) := by decide +kernel
theorem e_M_take_169 {a1 a2 a3 a4 : Option Value} : q_M_take S (f + 1) 169 [some (.ref i), a1, a2, a3, a4] st h = (q_M_take S f 170 [some (.ref i), a1, a2, a3, a4] (.ref i :: st) h) := by rw [q_M_take, hz_w_at d_M_take_169]; rfl
theorem e_M_take_169n {a1 a2 a3 a4 : Option Value} : q_M_take S (f + 1) 169 [some .null, a1, a2, a3, a4] st h = (q_M_take S f 170 [some .null, a1, a2, a3, a4] (.null :: st) h) := by rw [q_M_take, hz_w_at d_M_take_169]; rfl
theorem d_M_take_170 : decode c_M_take 170 = .ok (.getfield 32, 3) := by decide +kernel
theorem e_M_take_170 : q_M_take S (f + 1) 170 L (.ref i :: st) h = (hz_rd h i 5 10 fun v => q_M_take S f 173 L (v :: st) h) := by rw [q_M_take, hz_w_at d_M_take_170]; rfl
theorem d_M_take_173 : decode c_M_take 173 = .ok (.iload_n 3, 1) := by decide +kernel
theorem e_M_take_173 {a0 a1 a2 a4 : Option Value} : q_M_take S (f + 1) 173 [a0, a1, a2, some (.int x), a4] st h = (q_M_take S f 174 [a0, a1, a2, some (.int x), a4] (.int x :: st) h) := by rw [q_M_take, hz_w_at d_M_take_173]; rfl
theorem d_M_take_174 : decode c_M_take 174 = .ok (.iaload, 1) := by decide +kernel
theorem e_M_take_174 : q_M_take S (f + 1) 174 L (.int x :: .ref i :: st) h = (hz_ea zKT hz_kI h i x fun v => q_M_take S f 175 L (v :: st) h) := by rw [q_M_take, hz_w_at d_M_take_174]; rfl
theorem d_M_take_175 : decode c_M_take 175 = .ok (.ifCond .le 7, 3) := by decide +kernel
theorem e_M_take_175 : q_M_take S (f + 1) 175 L (.int x :: st) h = ((x.toInt ≤ 0 → q_M_take S f 182 L st h) ∧ (¬ (x.toInt ≤ 0) → q_M_take S f 178 L st h)) := by rw [q_M_take, hz_w_at d_M_take_175]; rfl
theorem d_M_take_178 : decode c_M_take 178 = .ok (.iconst 1, 1) := by decide +kernel
theorem e_M_take_178 : q_M_take S (f + 1) 178 L st h = (q_M_take S f 179 L (.int (hz_n 1) :: st) h) := by rw [q_M_take, hz_w_at d_M_take_178]; rfl
theorem d_M_take_179 : decode c_M_take 179 = .ok (.goto 4, 3) := by decide +kernel
theorem e_M_take_179 : q_M_take S (f + 1) 179 L st h = (q_M_take S f 183 L st h) := by rw [q_M_take, hz_w_at d_M_take_179]; rfl
theorem d_M_take_182 : decode c_M_take 182 = .ok (.iconst 0, 1) := by decide +kernel
theorem e_M_take_182 : q_M_take S (f + 1) 182 L st h = (q_M_take S f 183 L (.int (hz_n 0) :: st) h) := by rw [q_M_take, hz_w_at d_M_take_182]; rfl
theorem d_M_take_183 : decode c_M_take 183 = .ok (.ireturn, 1) := by decide +kernel
theorem e_M_take_183 : q_M_take S (f + 1) 183 L st h = (S 183 L st h) := by rw [q_M_take, hz_w_at d_M_take_183]; rfl
theorem d_M_take_184 : decode c_M_take 184 = .ok (.aload_n 0, 1) := by decide +kernel
theorem e_M_take_184 {a1 a2 a3 a4 : Option Value} : q_M_take S (f + 1) 184 [some (.ref i), a1, a2, a3, a4] st h = (q_M_take S f 185 [some (.ref i), a1, a2, a3, a4] (.ref i :: st) h) := by rw [q_M_take, hz_w_at d_M_take_184]; rfl
theorem e_M_take_184n {a1 a2 a3 a4 : Option Value} : q_M_take S (f + 1) 184 [some .null, a1, a2, a3, a4] st h = (q_M_take S f 185 [some .null, a1, a2, a3, a4] (.null :: st) h) := by rw [q_M_take, hz_w_at d_M_take_184]; rfl
theorem d_M_take_185 : decode c_M_take 185 = .ok (.getfield 32, 3) := by decide +kernel
theorem e_M_take_185 : q_M_take S (f + 1) 185 L (.ref i :: st) h = (hz_rd h i 5 10 fun v => q_M_take S f 188 L (v :: st) h) := by rw [q_M_take, hz_w_at d_M_take_185]; rfl
theorem d_M_take_188 : decode c_M_take 188 = .ok (.iload_n 3, 1) := by decide +kernel
theorem e_M_take_188 {a0 a1 a2 a4 : Option Value} : q_M_take S (f + 1) 188 [a0, a1, a2, some (.int x), a4] st h = (q_M_take S f 189 [a0, a1, a2, some (.int x), a4] (.int x :: st) h) := by rw [q_M_take, hz_w_at d_M_take_188]; rfl
theorem d_M_take_189 : decode c_M_take 189 = .ok (.iaload, 1) := by decide +kernel
theorem e_M_take_189 : q_M_take S (f + 1) 189 L (.int x :: .ref i :: st) h = (hz_ea zKT hz_kI h i x fun v => q_M_take S f 190 L (v :: st) h) := by rw [q_M_take, hz_w_at d_M_take_189]; rfl
theorem d_M_take_190 : decode c_M_take 190 = .ok (.iconst 4, 1) := by decide +kernel
theorem e_M_take_190 : q_M_take S (f + 1) 190 L st h = (q_M_take S f 191 L (.int (hz_n 4) :: st) h) := by rw [q_M_take, hz_w_at d_M_take_190]; rfl
theorem d_M_take_191 : decode c_M_take 191 = .ok (.if_icmp .ne 5, 3) := by decide +kernel
theorem e_M_take_191 : q_M_take S (f + 1) 191 L (.int y :: .int x :: st) h = ((¬ x.toInt = y.toInt → q_M_take S f 196 L st h) ∧ (¬ (¬ x.toInt = y.toInt) → q_M_take S f 194 L st h)) := by rw [q_M_take, hz_w_at d_M_take_191]; rfl
theorem d_M_take_194 : decode c_M_take 194 = .ok (.iconst 0, 1) := by decide +kernel
theorem e_M_take_194 : q_M_take S (f + 1) 194 L st h = (q_M_take S f 195 L (.int (hz_n 0) :: st) h) := by rw [q_M_take, hz_w_at d_M_take_194]; rfl
theorem d_M_take_195 : decode c_M_take 195 = .ok (.ireturn, 1) := by decide +kernel
theorem e_M_take_195 : q_M_take S (f + 1) 195 L st h = (S 195 L st h) := by rw [q_M_take, hz_w_at d_M_take_195]; rfl
theorem d_M_take_196 : decode c_M_take 196 = .ok (.aload_n 0, 1) := by decide +kernel
theorem e_M_take_196 {a1 a2 a3 a4 : Option Value} : q_M_take S (f + 1) 196 [some (.ref i), a1, a2, a3, a4] st h = (q_M_take S f 197 [some (.ref i), a1, a2, a3, a4] (.ref i :: st) h) := by rw [q_M_take, hz_w_at d_M_take_196]; rfl
theorem e_M_take_196n {a1 a2 a3 a4 : Option Value} : q_M_take S (f + 1) 196 [some .null, a1, a2, a3, a4] st h = (q_M_take S f 197 [some .null, a1, a2, a3, a4] (.null :: st) h) := by rw [q_M_take, hz_w_at d_M_take_196]; rfl
theorem d_M_take_197 : decode c_M_take 197 = .ok (.getfield 32, 3) := by decide +kernel
theorem e_M_take_197 : q_M_take S (f + 1) 197 L (.ref i :: st) h = (hz_rd h i 5 10 fun v => q_M_take S f 200 L (v :: st) h) := by rw [q_M_take, hz_w_at d_M_take_197]; rfl
theorem d_M_take_200 : decode c_M_take 200 = .ok (.iload_n 3, 1) := by decide +kernel
theorem e_M_take_200 {a0 a1 a2 a4 : Option Value} : q_M_take S (f + 1) 200 [a0, a1, a2, some (.int x), a4] st h = (q_M_take S f 201 [a0, a1, a2, some (.int x), a4] (.int x :: st) h) := by rw [q_M_take, hz_w_at d_M_take_200]; rfl
theorem d_M_take_201 : decode c_M_take 201 = .ok (.dup2, 1) := by decide +kernel
theorem e_M_take_201 : q_M_take S (f + 1) 201 L (.int x :: .ref i :: st) h = (q_M_take S f 202 L (.int x :: .ref i :: .int x :: .ref i :: st) h) := by rw [q_M_take, hz_w_at d_M_take_201]; rfl
theorem d_M_take_202 : decode c_M_take 202 = .ok (.iaload, 1) := by decide +kernel
theorem e_M_take_202 : q_M_take S (f + 1) 202 L (.int x :: .ref i :: st) h = (hz_ea zKT hz_kI h i x fun v => q_M_take S f 203 L (v :: st) h) := by rw [q_M_take, hz_w_at d_M_take_202]; rfl
theorem d_M_take_203 : decode c_M_take 203 = .ok (.iconst 1, 1) := by decide +kernel
theorem e_M_take_203 : q_M_take S (f + 1) 203 L st h = (q_M_take S f 204 L (.int (hz_n 1) :: st) h) := by rw [q_M_take, hz_w_at d_M_take_203]; rfl
theorem d_M_take_204 : decode c_M_take 204 = .ok (.iadd, 1) := by decide +kernel
theorem e_M_take_204 : q_M_take S (f + 1) 204 L (.int y :: .int x :: st) h = (q_M_take S f 205 L (.int (x + y) :: st) h) := by rw [q_M_take, hz_w_at d_M_take_204]; rfl
theorem d_M_take_205 : decode c_M_take 205 = .ok (.iastore, 1) := by decide +kernel
theorem e_M_take_205 : q_M_take S (f + 1) 205 L (.int y :: .int x :: .ref i :: st) h = (hz_es zKT hz_kI h i x (.int y) fun h => q_M_take S f 206 L st h) := by rw [q_M_take, hz_w_at d_M_take_205]; rfl
theorem d_M_take_206 : decode c_M_take 206 = .ok (.aload_n 0, 1) := by decide +kernel
theorem e_M_take_206 {a1 a2 a3 a4 : Option Value} : q_M_take S (f + 1) 206 [some (.ref i), a1, a2, a3, a4] st h = (q_M_take S f 207 [some (.ref i), a1, a2, a3, a4] (.ref i :: st) h) := by rw [q_M_take, hz_w_at d_M_take_206]; rfl
theorem e_M_take_206n {a1 a2 a3 a4 : Option Value} : q_M_take S (f + 1) 206 [some .null, a1, a2, a3, a4] st h = (q_M_take S f 207 [some .null, a1, a2, a3, a4] (.null :: st) h) := by rw [q_M_take, hz_w_at d_M_take_206]; rfl
theorem d_M_take_207 : decode c_M_take 207 = .ok (.iconst 3, 1) := by decide +kernel
theorem e_M_take_207 : q_M_take S (f + 1) 207 L st h = (q_M_take S f 208 L (.int (hz_n 3) :: st) h) := by rw [q_M_take, hz_w_at d_M_take_207]; rfl
theorem d_M_take_208 : decode c_M_take 208 = .ok (.iload_n 3, 1) := by decide +kernel
theorem e_M_take_208 {a0 a1 a2 a4 : Option Value} : q_M_take S (f + 1) 208 [a0, a1, a2, some (.int x), a4] st h = (q_M_take S f 209 [a0, a1, a2, some (.int x), a4] (.int x :: st) h) := by rw [q_M_take, hz_w_at d_M_take_208]; rfl
theorem d_M_take_209 : decode c_M_take 209 = .ok (.iload 4, 2) := by decide +kernel
theorem e_M_take_209 {a0 a1 a2 a3 : Option Value} : q_M_take S (f + 1) 209 [a0, a1, a2, a3, some (.int x)] st h = (q_M_take S f 211 [a0, a1, a2, a3, some (.int x)] (.int x :: st) h) := by rw [q_M_take, hz_w_at d_M_take_209]; rfl
theorem d_M_take_211 : decode c_M_take 211 = .ok (.invokevirtual 93, 3) := by decide +kernel
theorem e_M_take_211 : q_M_take S (f + 1) 211 L st h = (S 211 L st h) := by rw [q_M_take, hz_w_at d_M_take_211]; rfl
theorem d_M_take_214 : decode c_M_take 214 = .ok (.aload_n 0, 1) := by decide +kernel
theorem e_M_take_214 {a1 a2 a3 a4 : Option Value} : q_M_take S (f + 1) 214 [some (.ref i), a1, a2, a3, a4] st h = (q_M_take S f 215 [some (.ref i), a1, a2, a3, a4] (.ref i :: st) h) := by rw [q_M_take, hz_w_at d_M_take_214]; rfl
theorem e_M_take_214n {a1 a2 a3 a4 : Option Value} : q_M_take S (f + 1) 214 [some .null, a1, a2, a3, a4] st h = (q_M_take S f 215 [some .null, a1, a2, a3, a4] (.null :: st) h) := by rw [q_M_take, hz_w_at d_M_take_214]; rfl
theorem d_M_take_215 : decode c_M_take 215 = .ok (.iload_n 1, 1) := by decide +kernel
theorem e_M_take_215 {a0 a2 a3 a4 : Option Value} : q_M_take S (f + 1) 215 [a0, some (.int x), a2, a3, a4] st h = (q_M_take S f 216 [a0, some (.int x), a2, a3, a4] (.int x :: st) h) := by rw [q_M_take, hz_w_at d_M_take_215]; rfl
theorem d_M_take_216 : decode c_M_take 216 = .ok (.iload_n 2, 1) := by decide +kernel
theorem e_M_take_216 {a0 a1 a3 a4 : Option Value} : q_M_take S (f + 1) 216 [a0, a1, some (.int x), a3, a4] st h = (q_M_take S f 217 [a0, a1, some (.int x), a3, a4] (.int x :: st) h) := by rw [q_M_take, hz_w_at d_M_take_216]; rfl
theorem d_M_take_217 : decode c_M_take 217 = .ok (.iload 4, 2) := by decide +kernel
theorem e_M_take_217 {a0 a1 a2 a3 : Option Value} : q_M_take S (f + 1) 217 [a0, a1, a2, a3, some (.int x)] st h = (q_M_take S f 219 [a0, a1, a2, a3, some (.int x)] (.int x :: st) h) := by rw [q_M_take, hz_w_at d_M_take_217]; rfl
theorem d_M_take_219 : decode c_M_take 219 = .ok (.iconst 1, 1) := by decide +kernel
theorem e_M_take_219 : q_M_take S (f + 1) 219 L st h = (q_M_take S f 220 L (.int (hz_n 1) :: st) h) := by rw [q_M_take, hz_w_at d_M_take_219]; rfl
theorem d_M_take_220 : decode c_M_take 220 = .ok (.iadd, 1) := by decide +kernel
theorem e_M_take_220 : q_M_take S (f + 1) 220 L (.int y :: .int x :: st) h = (q_M_take S f 221 L (.int (x + y) :: st) h) := by rw [q_M_take, hz_w_at d_M_take_220]; rfl
theorem d_M_take_221 : decode c_M_take 221 = .ok (.invokevirtual 115, 3) := by decide +kernel
theorem e_M_take_221 : q_M_take S (f + 1) 221 L st h = (S 221 L st h) := by rw [q_M_take, hz_w_at d_M_take_221]; rfl
theorem d_M_take_224 : decode c_M_take 224 = .ok (.ireturn, 1) := by decide +kernel
theorem e_M_take_224 : q_M_take S (f + 1) 224 L st h = (S 224 L st h) := by rw [q_M_take, hz_w_at d_M_take_224]; rfl
theorem d_M_take_225 : decode c_M_take 225 = .ok (.aload_n 0, 1) := by decide +kernel
theorem e_M_take_225 {a1 a2 a3 a4 : Option Value} : q_M_take S (f + 1) 225 [some (.ref i), a1, a2, a3, a4] st h = (q_M_take S f 226 [some (.ref i), a1, a2, a3, a4] (.ref i :: st) h) := by rw [q_M_take, hz_w_at d_M_take_225]; rfl
theorem e_M_take_225n {a1 a2 a3 a4 : Option Value} : q_M_take S (f + 1) 225 [some .null, a1, a2, a3, a4] st h = (q_M_take S f 226 [some .null, a1, a2, a3, a4] (.null :: st) h) := by rw [q_M_take, hz_w_at d_M_take_225]; rfl
theorem d_M_take_226 : decode c_M_take 226 = .ok (.getfield 29, 3) := by decide +kernel
theorem e_M_take_226 : q_M_take S (f + 1) 226 L (.ref i :: st) h = (hz_rd h i 5 9 fun v => q_M_take S f 229 L (v :: st) h) := by rw [q_M_take, hz_w_at d_M_take_226]; rfl
theorem d_M_take_229 : decode c_M_take 229 = .ok (.iload_n 3, 1) := by decide +kernel
theorem e_M_take_229 {a0 a1 a2 a4 : Option Value} : q_M_take S (f + 1) 229 [a0, a1, a2, some (.int x), a4] st h = (q_M_take S f 230 [a0, a1, a2, some (.int x), a4] (.int x :: st) h) := by rw [q_M_take, hz_w_at d_M_take_229]; rfl
theorem d_M_take_230 : decode c_M_take 230 = .ok (.iload_n 1, 1) := by decide +kernel
theorem e_M_take_230 {a0 a2 a3 a4 : Option Value} : q_M_take S (f + 1) 230 [a0, some (.int x), a2, a3, a4] st h = (q_M_take S f 231 [a0, some (.int x), a2, a3, a4] (.int x :: st) h) := by rw [q_M_take, hz_w_at d_M_take_230]; rfl
theorem d_M_take_231 : decode c_M_take 231 = .ok (.bipush 97, 2) := by decide +kernel
theorem e_M_take_231 : q_M_take S (f + 1) 231 L st h = (q_M_take S f 233 L (.int (hz_n 97) :: st) h) := by rw [q_M_take, hz_w_at d_M_take_231]; rfl
theorem d_M_take_233 : decode c_M_take 233 = .ok (.isub, 1) := by decide +kernel
theorem e_M_take_233 : q_M_take S (f + 1) 233 L (.int y :: .int x :: st) h = (q_M_take S f 234 L (.int (x - y) :: st) h) := by rw [q_M_take, hz_w_at d_M_take_233]; rfl
theorem d_M_take_234 : decode c_M_take 234 = .ok (.iastore, 1) := by decide +kernel
theorem e_M_take_234 : q_M_take S (f + 1) 234 L (.int y :: .int x :: .ref i :: st) h = (hz_es zKT hz_kI h i x (.int y) fun h => q_M_take S f 235 L st h) := by rw [q_M_take, hz_w_at d_M_take_234]; rfl
theorem d_M_take_235 : decode c_M_take 235 = .ok (.iload_n 1, 1) := by decide +kernel
theorem e_M_take_235 {a0 a2 a3 a4 : Option Value} : q_M_take S (f + 1) 235 [a0, some (.int x), a2, a3, a4] st h = (q_M_take S f 236 [a0, some (.int x), a2, a3, a4] (.int x :: st) h) := by rw [q_M_take, hz_w_at d_M_take_235]; rfl
theorem d_M_take_236 : decode c_M_take 236 = .ok (.invokestatic 97, 3) := by decide +kernel
theorem e_M_take_236 : q_M_take S (f + 1) 236 L st h = (S 236 L st h) := by rw [q_M_take, hz_w_at d_M_take_236]; rfl
theorem d_M_take_239 : decode c_M_take 239 = .ok (.ireturn, 1) := by decide +kernel
theorem e_M_take_239 : q_M_take S (f + 1) 239 L st h = (S 239 L st h) := by rw [q_M_take, hz_w_at d_M_take_239]; rfl
theorem d_M_take_240 : decode c_M_take 240 = .ok (.aload_n 0, 1) := by decide +kernel
theorem e_M_take_240 {a1 a2 a3 a4 : Option Value} : q_M_take S (f + 1) 240 [some (.ref i), a1, a2, a3, a4] st h = (q_M_take S f 241 [some (.ref i), a1, a2, a3, a4] (.ref i :: st) h) := by rw [q_M_take, hz_w_at d_M_take_240]; rfl
theorem e_M_take_240n {a1 a2 a3 a4 : Option Value} : q_M_take S (f + 1) 240 [some .null, a1, a2, a3, a4] st h = (q_M_take S f 241 [some .null, a1, a2, a3, a4] (.null :: st) h) := by rw [q_M_take, hz_w_at d_M_take_240]; rfl
theorem d_M_take_241 : decode c_M_take 241 = .ok (.getfield 32, 3) := by decide +kernel
theorem e_M_take_241 : q_M_take S (f + 1) 241 L (.ref i :: st) h = (hz_rd h i 5 10 fun v => q_M_take S f 244 L (v :: st) h) := by rw [q_M_take, hz_w_at d_M_take_241]; rfl
theorem d_M_take_244 : decode c_M_take 244 = .ok (.iload_n 3, 1) := by decide +kernel
theorem e_M_take_244 {a0 a1 a2 a4 : Option Value} : q_M_take S (f + 1) 244 [a0, a1, a2, some (.int x), a4] st h = (q_M_take S f 245 [a0, a1, a2, some (.int x), a4] (.int x :: st) h) := by rw [q_M_take, hz_w_at d_M_take_244]; rfl
theorem d_M_take_245 : decode c_M_take 245 = .ok (.iload_n 1, 1) := by decide +kernel
theorem e_M_take_245 {a0 a2 a3 a4 : Option Value} : q_M_take S (f + 1) 245 [a0, some (.int x), a2, a3, a4] st h = (q_M_take S f 246 [a0, some (.int x), a2, a3, a4] (.int x :: st) h) := by rw [q_M_take, hz_w_at d_M_take_245]; rfl
theorem d_M_take_246 : decode c_M_take 246 = .ok (.bipush 97, 2) := by decide +kernel
theorem e_M_take_246 : q_M_take S (f + 1) 246 L st h = (q_M_take S f 248 L (.int (hz_n 97) :: st) h) := by rw [q_M_take, hz_w_at d_M_take_246]; rfl
theorem d_M_take_248 : decode c_M_take 248 = .ok (.isub, 1) := by decide +kernel
theorem e_M_take_248 : q_M_take S (f + 1) 248 L (.int y :: .int x :: st) h = (q_M_take S f 249 L (.int (x - y) :: st) h) := by rw [q_M_take, hz_w_at d_M_take_248]; rfl
theorem d_M_take_249 : decode c_M_take 249 = .ok (.iastore, 1) := by decide +kernel
theorem e_M_take_249 : q_M_take S (f + 1) 249 L (.int y :: .int x :: .ref i :: st) h = (hz_es zKT hz_kI h i x (.int y) fun h => q_M_take S f 250 L st h) := by rw [q_M_take, hz_w_at d_M_take_249]; rfl
theorem d_M_take_250 : decode c_M_take 250 = .ok (.iload_n 1, 1) := by decide +kernel
theorem e_M_take_250 {a0 a2 a3 a4 : Option Value} : q_M_take S (f + 1) 250 [a0, some (.int x), a2, a3, a4] st h = (q_M_take S f 251 [a0, some (.int x), a2, a3, a4] (.int x :: st) h) := by rw [q_M_take, hz_w_at d_M_take_250]; rfl
theorem d_M_take_251 : decode c_M_take 251 = .ok (.invokestatic 97, 3) := by decide +kernel
theorem e_M_take_251 : q_M_take S (f + 1) 251 L st h = (S 251 L st h) := by rw [q_M_take, hz_w_at d_M_take_251]; rfl
theorem d_M_take_254 : decode c_M_take 254 = .ok (.ireturn, 1) := by decide +kernel
theorem e_M_take_254 : q_M_take S (f + 1) 254 L st h = (S 254 L st h) := by rw [q_M_take, hz_w_at d_M_take_254]; rfl
end
