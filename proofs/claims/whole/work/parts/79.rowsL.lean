/-! Rows of LazyGraphsLaw: instructions, and what each asks of the state behind it. Printed by wip/genparts.py. -/
abbrev q_L_define (S : Nat → List (Option Value) → List Value → hz_H → Prop) := hz_w zCl zKT f_L n_L c_L_define [] S
section
variable {S : Nat → List (Option Value) → List Value → hz_H → Prop} {f : Nat} {L : List (Option Value)} {st : List Value} {h : hz_H} {x y : Int32} {i j : Nat} {X Y : Int64}
theorem d_L_define_0 : decode c_L_define 0 = .ok (.aload_n 2, 1) := by decide +kernel
theorem e_L_define_0 {a0 a1 a3 : Option Value} : q_L_define S (f + 1) 0 [a0, a1, some (.ref i), a3] st h = (q_L_define S f 1 [a0, a1, some (.ref i), a3] (.ref i :: st) h) := by rw [q_L_define, hz_w_at d_L_define_0]; rfl
theorem e_L_define_0n {a0 a1 a3 : Option Value} : q_L_define S (f + 1) 0 [a0, a1, some .null, a3] st h = (q_L_define S f 1 [a0, a1, some .null, a3] (.null :: st) h) := by rw [q_L_define, hz_w_at d_L_define_0]; rfl
theorem d_L_define_1 : decode c_L_define 1 = .ok (.iconst 0, 1) := by decide +kernel
theorem e_L_define_1 : q_L_define S (f + 1) 1 L st h = (q_L_define S f 2 L (.int (hz_n 0) :: st) h) := by rw [q_L_define, hz_w_at d_L_define_1]; rfl
theorem d_L_define_2 : decode c_L_define 2 = .ok (.aload_n 0, 1) := by decide +kernel
theorem e_L_define_2 {a1 a2 a3 : Option Value} : q_L_define S (f + 1) 2 [some (.ref i), a1, a2, a3] st h = (q_L_define S f 3 [some (.ref i), a1, a2, a3] (.ref i :: st) h) := by rw [q_L_define, hz_w_at d_L_define_2]; rfl
theorem e_L_define_2n {a1 a2 a3 : Option Value} : q_L_define S (f + 1) 2 [some .null, a1, a2, a3] st h = (q_L_define S f 3 [some .null, a1, a2, a3] (.null :: st) h) := by rw [q_L_define, hz_w_at d_L_define_2]; rfl
theorem d_L_define_3 : decode c_L_define 3 = .ok (.iload_n 1, 1) := by decide +kernel
theorem e_L_define_3 {a0 a2 a3 : Option Value} : q_L_define S (f + 1) 3 [a0, some (.int x), a2, a3] st h = (q_L_define S f 4 [a0, some (.int x), a2, a3] (.int x :: st) h) := by rw [q_L_define, hz_w_at d_L_define_3]; rfl
theorem d_L_define_4 : decode c_L_define 4 = .ok (.invokevirtual 7, 3) := by decide +kernel
theorem e_L_define_4 : q_L_define S (f + 1) 4 L st h = (S 4 L st h) := by rw [q_L_define, hz_w_at d_L_define_4]; rfl
theorem d_L_define_7 : decode c_L_define 7 = .ok (.i2l, 1) := by decide +kernel
theorem e_L_define_7 : q_L_define S (f + 1) 7 L (.int x :: st) h = (q_L_define S f 8 L (.long x.toInt64 :: st) h) := by rw [q_L_define, hz_w_at d_L_define_7]; rfl
theorem d_L_define_8 : decode c_L_define 8 = .ok (.lastore, 1) := by decide +kernel
theorem e_L_define_8 : q_L_define S (f + 1) 8 L (.long Y :: .int x :: .ref i :: st) h = (hz_es zKT hz_kJ h i x (.long Y) fun h => q_L_define S f 9 L st h) := by rw [q_L_define, hz_w_at d_L_define_8]; rfl
theorem d_L_define_9 : decode c_L_define 9 = .ok (.goto 6, 3) := by decide +kernel
theorem e_L_define_9 : q_L_define S (f + 1) 9 L st h = (q_L_define S f 15 L st h) := by rw [q_L_define, hz_w_at d_L_define_9]; rfl
theorem d_L_define_12 : decode c_L_define 12 = .ok (.astore_n 3, 1) := by decide +kernel
theorem e_L_define_12 {a0 a1 a2 a3 : Option Value} : q_L_define S (f + 1) 12 [a0, a1, a2, a3] (.ref i :: st) h = (q_L_define S f 13 [a0, a1, a2, some (.ref i)] st h) := by rw [q_L_define, hz_w_at d_L_define_12]; rfl
theorem e_L_define_12n {a0 a1 a2 a3 : Option Value} : q_L_define S (f + 1) 12 [a0, a1, a2, a3] (.null :: st) h = (q_L_define S f 13 [a0, a1, a2, some .null] st h) := by rw [q_L_define, hz_w_at d_L_define_12]; rfl
theorem d_L_define_13 : decode c_L_define 13 = .ok (.iconst 1, 1) := by decide +kernel
theorem e_L_define_13 : q_L_define S (f + 1) 13 L st h = (q_L_define S f 14 L (.int (hz_n 1) :: st) h) := by rw [q_L_define, hz_w_at d_L_define_13]; rfl
theorem d_L_define_14 : decode c_L_define 14 = .ok (.ireturn, 1) := by decide +kernel
theorem e_L_define_14 : q_L_define S (f + 1) 14 L st h = (S 14 L st h) := by rw [q_L_define, hz_w_at d_L_define_14]; rfl
theorem d_L_define_15 : decode c_L_define 15 = .ok (.iconst 0, 1) := by decide +kernel
theorem e_L_define_15 : q_L_define S (f + 1) 15 L st h = (q_L_define S f 16 L (.int (hz_n 0) :: st) h) := by rw [q_L_define, hz_w_at d_L_define_15]; rfl
theorem d_L_define_16 : decode c_L_define 16 = .ok (.ireturn, 1) := by decide +kernel
theorem e_L_define_16 : q_L_define S (f + 1) 16 L st h = (S 16 L st h) := by rw [q_L_define, hz_w_at d_L_define_16]; rfl
end
abbrev q_L_forget (S : Nat → List (Option Value) → List Value → hz_H → Prop) := hz_w zCl zKT f_L n_L c_L_forget [] S
section
variable {S : Nat → List (Option Value) → List Value → hz_H → Prop} {f : Nat} {L : List (Option Value)} {st : List Value} {h : hz_H} {x y : Int32} {i j : Nat} {X Y : Int64}
theorem d_L_forget_0 : decode c_L_forget 0 = .ok (.aload_n 0, 1) := by decide +kernel
theorem e_L_forget_0 {a1 a2 : Option Value} : q_L_forget S (f + 1) 0 [some (.ref i), a1, a2] st h = (q_L_forget S f 1 [some (.ref i), a1, a2] (.ref i :: st) h) := by rw [q_L_forget, hz_w_at d_L_forget_0]; rfl
theorem e_L_forget_0n {a1 a2 : Option Value} : q_L_forget S (f + 1) 0 [some .null, a1, a2] st h = (q_L_forget S f 1 [some .null, a1, a2] (.null :: st) h) := by rw [q_L_forget, hz_w_at d_L_forget_0]; rfl
theorem d_L_forget_1 : decode c_L_forget 1 = .ok (.iload_n 1, 1) := by decide +kernel
theorem e_L_forget_1 {a0 a2 : Option Value} : q_L_forget S (f + 1) 1 [a0, some (.int x), a2] st h = (q_L_forget S f 2 [a0, some (.int x), a2] (.int x :: st) h) := by rw [q_L_forget, hz_w_at d_L_forget_1]; rfl
theorem d_L_forget_2 : decode c_L_forget 2 = .ok (.invokevirtual 15, 3) := by decide +kernel
theorem e_L_forget_2 : q_L_forget S (f + 1) 2 L st h = (S 2 L st h) := by rw [q_L_forget, hz_w_at d_L_forget_2]; rfl
theorem d_L_forget_5 : decode c_L_forget 5 = .ok (.goto 9, 3) := by decide +kernel
theorem e_L_forget_5 : q_L_forget S (f + 1) 5 L st h = (q_L_forget S f 14 L st h) := by rw [q_L_forget, hz_w_at d_L_forget_5]; rfl
theorem d_L_forget_8 : decode c_L_forget 8 = .ok (.astore_n 2, 1) := by decide +kernel
theorem e_L_forget_8 {a0 a1 a2 : Option Value} : q_L_forget S (f + 1) 8 [a0, a1, a2] (.ref i :: st) h = (q_L_forget S f 9 [a0, a1, some (.ref i)] st h) := by rw [q_L_forget, hz_w_at d_L_forget_8]; rfl
theorem e_L_forget_8n {a0 a1 a2 : Option Value} : q_L_forget S (f + 1) 8 [a0, a1, a2] (.null :: st) h = (q_L_forget S f 9 [a0, a1, some .null] st h) := by rw [q_L_forget, hz_w_at d_L_forget_8]; rfl
theorem d_L_forget_9 : decode c_L_forget 9 = .ok (.iconst 1, 1) := by decide +kernel
theorem e_L_forget_9 : q_L_forget S (f + 1) 9 L st h = (q_L_forget S f 10 L (.int (hz_n 1) :: st) h) := by rw [q_L_forget, hz_w_at d_L_forget_9]; rfl
theorem d_L_forget_10 : decode c_L_forget 10 = .ok (.ireturn, 1) := by decide +kernel
theorem e_L_forget_10 : q_L_forget S (f + 1) 10 L st h = (S 10 L st h) := by rw [q_L_forget, hz_w_at d_L_forget_10]; rfl
theorem d_L_forget_11 : decode c_L_forget 11 = .ok (.astore_n 2, 1) := by decide +kernel
theorem e_L_forget_11 {a0 a1 a2 : Option Value} : q_L_forget S (f + 1) 11 [a0, a1, a2] (.ref i :: st) h = (q_L_forget S f 12 [a0, a1, some (.ref i)] st h) := by rw [q_L_forget, hz_w_at d_L_forget_11]; rfl
theorem e_L_forget_11n {a0 a1 a2 : Option Value} : q_L_forget S (f + 1) 11 [a0, a1, a2] (.null :: st) h = (q_L_forget S f 12 [a0, a1, some .null] st h) := by rw [q_L_forget, hz_w_at d_L_forget_11]; rfl
theorem d_L_forget_12 : decode c_L_forget 12 = .ok (.iconst 2, 1) := by decide +kernel
theorem e_L_forget_12 : q_L_forget S (f + 1) 12 L st h = (q_L_forget S f 13 L (.int (hz_n 2) :: st) h) := by rw [q_L_forget, hz_w_at d_L_forget_12]; rfl
theorem d_L_forget_13 : decode c_L_forget 13 = .ok (.ireturn, 1) := by decide +kernel
theorem e_L_forget_13 : q_L_forget S (f + 1) 13 L st h = (S 13 L st h) := by rw [q_L_forget, hz_w_at d_L_forget_13]; rfl
theorem d_L_forget_14 : decode c_L_forget 14 = .ok (.iconst 0, 1) := by decide +kernel
theorem e_L_forget_14 : q_L_forget S (f + 1) 14 L st h = (q_L_forget S f 15 L (.int (hz_n 0) :: st) h) := by rw [q_L_forget, hz_w_at d_L_forget_14]; rfl
theorem d_L_forget_15 : decode c_L_forget 15 = .ok (.ireturn, 1) := by decide +kernel
theorem e_L_forget_15 : q_L_forget S (f + 1) 15 L st h = (S 15 L st h) := by rw [q_L_forget, hz_w_at d_L_forget_15]; rfl
end
abbrev q_L_run (S : Nat → List (Option Value) → List Value → hz_H → Prop) := hz_w zCl zKT f_L n_L c_L_run [] S
section
variable {S : Nat → List (Option Value) → List Value → hz_H → Prop} {f : Nat} {L : List (Option Value)} {st : List Value} {h : hz_H} {x y : Int32} {i j : Nat} {X Y : Int64}
theorem d_L_run_0 : decode c_L_run 0 = .ok (.aload_n 3, 1) := by decide +kernel
theorem e_L_run_0 {a0 a1 a2 a4 : Option Value} : q_L_run S (f + 1) 0 [a0, a1, a2, some (.ref i), a4] st h = (q_L_run S f 1 [a0, a1, a2, some (.ref i), a4] (.ref i :: st) h) := by rw [q_L_run, hz_w_at d_L_run_0]; rfl
theorem e_L_run_0n {a0 a1 a2 a4 : Option Value} : q_L_run S (f + 1) 0 [a0, a1, a2, some .null, a4] st h = (q_L_run S f 1 [a0, a1, a2, some .null, a4] (.null :: st) h) := by rw [q_L_run, hz_w_at d_L_run_0]; rfl
theorem d_L_run_1 : decode c_L_run 1 = .ok (.iconst 0, 1) := by decide +kernel
theorem e_L_run_1 : q_L_run S (f + 1) 1 L st h = (q_L_run S f 2 L (.int (hz_n 0) :: st) h) := by rw [q_L_run, hz_w_at d_L_run_1]; rfl
theorem d_L_run_2 : decode c_L_run 2 = .ok (.aload_n 0, 1) := by decide +kernel
theorem e_L_run_2 {a1 a2 a3 a4 : Option Value} : q_L_run S (f + 1) 2 [some (.ref i), a1, a2, a3, a4] st h = (q_L_run S f 3 [some (.ref i), a1, a2, a3, a4] (.ref i :: st) h) := by rw [q_L_run, hz_w_at d_L_run_2]; rfl
theorem e_L_run_2n {a1 a2 a3 a4 : Option Value} : q_L_run S (f + 1) 2 [some .null, a1, a2, a3, a4] st h = (q_L_run S f 3 [some .null, a1, a2, a3, a4] (.null :: st) h) := by rw [q_L_run, hz_w_at d_L_run_2]; rfl
theorem d_L_run_3 : decode c_L_run 3 = .ok (.iload_n 1, 1) := by decide +kernel
theorem e_L_run_3 {a0 a2 a3 a4 : Option Value} : q_L_run S (f + 1) 3 [a0, some (.int x), a2, a3, a4] st h = (q_L_run S f 4 [a0, some (.int x), a2, a3, a4] (.int x :: st) h) := by rw [q_L_run, hz_w_at d_L_run_3]; rfl
theorem d_L_run_4 : decode c_L_run 4 = .ok (.iload_n 2, 1) := by decide +kernel
theorem e_L_run_4 {a0 a1 a3 a4 : Option Value} : q_L_run S (f + 1) 4 [a0, a1, some (.int x), a3, a4] st h = (q_L_run S f 5 [a0, a1, some (.int x), a3, a4] (.int x :: st) h) := by rw [q_L_run, hz_w_at d_L_run_4]; rfl
theorem d_L_run_5 : decode c_L_run 5 = .ok (.invokevirtual 21, 3) := by decide +kernel
theorem e_L_run_5 : q_L_run S (f + 1) 5 L st h = (S 5 L st h) := by rw [q_L_run, hz_w_at d_L_run_5]; rfl
theorem d_L_run_8 : decode c_L_run 8 = .ok (.i2l, 1) := by decide +kernel
theorem e_L_run_8 : q_L_run S (f + 1) 8 L (.int x :: st) h = (q_L_run S f 9 L (.long x.toInt64 :: st) h) := by rw [q_L_run, hz_w_at d_L_run_8]; rfl
theorem d_L_run_9 : decode c_L_run 9 = .ok (.lastore, 1) := by decide +kernel
theorem e_L_run_9 : q_L_run S (f + 1) 9 L (.long Y :: .int x :: .ref i :: st) h = (hz_es zKT hz_kJ h i x (.long Y) fun h => q_L_run S f 10 L st h) := by rw [q_L_run, hz_w_at d_L_run_9]; rfl
theorem d_L_run_10 : decode c_L_run 10 = .ok (.goto 11, 3) := by decide +kernel
theorem e_L_run_10 : q_L_run S (f + 1) 10 L st h = (q_L_run S f 21 L st h) := by rw [q_L_run, hz_w_at d_L_run_10]; rfl
theorem d_L_run_13 : decode c_L_run 13 = .ok (.astore 4, 2) := by decide +kernel
theorem e_L_run_13 {a0 a1 a2 a3 a4 : Option Value} : q_L_run S (f + 1) 13 [a0, a1, a2, a3, a4] (.ref i :: st) h = (q_L_run S f 15 [a0, a1, a2, a3, some (.ref i)] st h) := by rw [q_L_run, hz_w_at d_L_run_13]; rfl
theorem e_L_run_13n {a0 a1 a2 a3 a4 : Option Value} : q_L_run S (f + 1) 13 [a0, a1, a2, a3, a4] (.null :: st) h = (q_L_run S f 15 [a0, a1, a2, a3, some .null] st h) := by rw [q_L_run, hz_w_at d_L_run_13]; rfl
theorem d_L_run_15 : decode c_L_run 15 = .ok (.iconst 1, 1) := by decide +kernel
theorem e_L_run_15 : q_L_run S (f + 1) 15 L st h = (q_L_run S f 16 L (.int (hz_n 1) :: st) h) := by rw [q_L_run, hz_w_at d_L_run_15]; rfl
theorem d_L_run_16 : decode c_L_run 16 = .ok (.ireturn, 1) := by decide +kernel
theorem e_L_run_16 : q_L_run S (f + 1) 16 L st h = (S 16 L st h) := by rw [q_L_run, hz_w_at d_L_run_16]; rfl
theorem d_L_run_17 : decode c_L_run 17 = .ok (.astore 4, 2) := by decide +kernel
theorem e_L_run_17 {a0 a1 a2 a3 a4 : Option Value} : q_L_run S (f + 1) 17 [a0, a1, a2, a3, a4] (.ref i :: st) h = (q_L_run S f 19 [a0, a1, a2, a3, some (.ref i)] st h) := by rw [q_L_run, hz_w_at d_L_run_17]; rfl
theorem e_L_run_17n {a0 a1 a2 a3 a4 : Option Value} : q_L_run S (f + 1) 17 [a0, a1, a2, a3, a4] (.null :: st) h = (q_L_run S f 19 [a0, a1, a2, a3, some .null] st h) := by rw [q_L_run, hz_w_at d_L_run_17]; rfl
theorem d_L_run_19 : decode c_L_run 19 = .ok (.iconst 2, 1) := by decide +kernel
theorem e_L_run_19 : q_L_run S (f + 1) 19 L st h = (q_L_run S f 20 L (.int (hz_n 2) :: st) h) := by rw [q_L_run, hz_w_at d_L_run_19]; rfl
theorem d_L_run_20 : decode c_L_run 20 = .ok (.ireturn, 1) := by decide +kernel
theorem e_L_run_20 : q_L_run S (f + 1) 20 L st h = (S 20 L st h) := by rw [q_L_run, hz_w_at d_L_run_20]; rfl
theorem d_L_run_21 : decode c_L_run 21 = .ok (.iconst 0, 1) := by decide +kernel
theorem e_L_run_21 : q_L_run S (f + 1) 21 L st h = (q_L_run S f 22 L (.int (hz_n 0) :: st) h) := by rw [q_L_run, hz_w_at d_L_run_21]; rfl
theorem d_L_run_22 : decode c_L_run 22 = .ok (.ireturn, 1) := by decide +kernel
theorem e_L_run_22 : q_L_run S (f + 1) 22 L st h = (S 22 L st h) := by rw [q_L_run, hz_w_at d_L_run_22]; rfl
end
