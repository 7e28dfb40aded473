/-! The law: define, forget, run. -/
section
variable {p : Program} {l : Launch} {e : Env} {s : State} {m : MethodId} {args : Array Value} {below : List Frame} {meth : Method} {c : Code} {Q : State → Prop} {G : hz_G} {y : MethodName} {b L k : Nat} {xs : Nat → Int32} {κ : zK} {μ : zM} {ω : Nat → Int64} {D : hz_H} {E : Nat → Option zT} {n : Nat} {H : Heap} {locs : List Loc} {ls : Array Slot} {cells slots pc : Nat} {rest : List Value} {h : hz_H}
theorem zE_lt (hE : zE D E) (hD : ∀ i, n ≤ i → D i = none) {d : Nat} {T : zT} (h : E d = some T) : d < n := by
  obtain ⟨h0, s1, s2, s3, h1, h2, h3, e0, -⟩ := hE d T h
  exact Nat.lt_of_not_le fun q => by rw [hD d q] at e0; cases e0
theorem zDf_lt (hD : ∀ i, n ≤ i → D i = none) {N : Nat} {ρ : zM} {d : Nat} {T : zT} (h : zDf D d T) : zDf (zQ D n N ρ) d T := by
  obtain ⟨h0, s1, s2, s3, h1, h2, h3, e0, e1, e2, e3⟩ := h
  have lt : ∀ (i : Nat) (v : hz_E), D i = some v → zQ D n N ρ i = some v := fun i v hv => by
    unfold zQ
    rw [if_pos (Nat.lt_of_not_le fun q => by rw [hD i q] at hv; cases hv)]
    exact hv
  exact ⟨h0, s1, s2, s3, h1, h2, h3, lt _ _ e0, lt _ _ e1, lt _ _ e2, lt _ _ e3⟩
theorem zQ_none {N : Nat} {ρ : zM} : ∀ i, n + 6 ≤ i → zQ D n N ρ i = none := fun i hi => by
  obtain ⟨j, rfl⟩ : ∃ j, i = n + (j + 6) := ⟨i - n - 6, by omega⟩
  rw [zQ_at]
  rfl
theorem xd_define : y_L_define.cls ≠ "java/lang/invoke/MethodHandle" ∧ y_L_define.cls ≠ "java/lang/invoke/VarHandle" ∧ (parseMethodDescriptor y_L_define.desc).map (fun d => d.parameters.length) = some 3 := by decide +kernel
theorem xd_forget : y_L_forget.cls ≠ "java/lang/invoke/MethodHandle" ∧ y_L_forget.cls ≠ "java/lang/invoke/VarHandle" ∧ (parseMethodDescriptor y_L_forget.desc).map (fun d => d.parameters.length) = some 2 := by decide +kernel
theorem xd_run : y_L_run.cls ≠ "java/lang/invoke/MethodHandle" ∧ y_L_run.cls ≠ "java/lang/invoke/VarHandle" ∧ (parseMethodDescriptor y_L_run.desc).map (fun d => d.parameters.length) = some 4 := by decide +kernel
theorem zfits {x : Int32} (h : 0 ≤ x.toInt ∧ x.toInt < 65536) : fits .char (.int x) = true := by
  have z1 : (0 : Int32).toInt = 0 := rfl
  have z2 : (65535 : Int32).toInt = 65535 := rfl
  show (decide ((0 : Int32) ≤ x) && decide (x ≤ (65535 : Int32))) = true
  rw [Bool.and_eq_true]
  exact ⟨decide_eq_true (by rw [Int32.le_iff_toInt_le, z1]; omega), decide_eq_true (by rw [Int32.le_iff_toInt_le, z2]; omega)⟩
/-- behind a call that answers through the law's long -/
theorem law_eqL {a : Int32} (F : zLF p l s m args meth c G y b L xs) (hnx : zNext p l e s m args below meth c Q G b k) (I : zWI G κ μ ω D E n H locs) (h0 : ω 0 = a.toInt64) (hls : lv_has ls 7 [(6, .int a), (5, .int (hz_n 0)), (0, .ref b), (1, .ref G.2.2.size), (2, .ref (G.2.2.size + 15)), (3, .ref (G.2.2.size + 39)), (4, .int (hz_n (3 * k : Nat)))]) (hc : cells ≤ 100 + 10 * (k + 1)) (hs : slots ≤ 40000 + 200 * (k + 1)) {off off2 : Int}
    (d0 : decode code pc = .ok (.aload_n 3, 1)) (d1 : decode code (pc + 1) = .ok (.iconst 0, 1)) (d2 : decode code (pc + 2) = .ok (.laload, 1)) (d3 : decode code (pc + 3) = .ok (.iload 6, 2)) (d5 : decode code (pc + 5) = .ok (.i2l, 1)) (d6 : decode code (pc + 6) = .ok (.lcmp, 1)) (d7 : decode code (pc + 7) = .ok (.ifCond .eq off, 3)) (ht : ((pc + 7 : Nat) : Int) + off = ((pc + 12 : Nat) : Int)) (d12 : decode code (pc + 12) = .ok (.goto off2, 3)) (ht2 : ((pc + 12 : Nat) : Int) + off2 = ((372 : Nat) : Int)) : W p l e room_1 s m args below meth c H locs cells slots Q (F0 m pc ls []) := by
  obtain ⟨J, hE, hn, hD, hR, hl⟩ := I
  obtain ⟨B, hy, hYB, hl9, hX, hbl, hG, hL⟩ := F
  obtain ⟨hx, hb, -⟩ := id B
  refine lv_aload_n hx hb d0 rfl (lv_at hls 5 rfl) ?_
  refine lv_iconst (v := hz_n 0) hx hb d1 rfl ?_
  refine hz_lald (i := 39) (t := 4) (len := 1) (f := hz_l ω) hx hb hR (B.2.2.2.2.2.2.2.1.2.1 4 _ rfl).1 rfl (by rw [zti0]; decide) d2 ?_
  refine lv_iload hx hb d3 (lv_at hls 0 rfl) ?_
  refine lv_i2l (v := a.toInt64) hx hb d5 rfl ?_
  have e1 : hz_v G.2.2.size (hz_l ω (hz_n 0).toInt.toNat) = .long a.toInt64 := by
    rw [zti0]
    show Value.long (ω 0) = _
    rw [h0]
  rw [e1]
  refine W.lcmp hx hb d6 ?_
  rw [zcmp0]
  refine lv_if_eq hx hb d7 ht (fun _ => ?_) (fun hne => absurd rfl hne)
  refine lv_goto hx hb d12 ht2 ?_
  exact hnx _ _ _ _ _ _ _ _ _ _ _ ⟨J, hE, hn, hD, hR, hl⟩ (lv_sub hls [2, 3, 4, 5, 6] rfl) hc hs
theorem law_define (F : zLF p l s m args meth c G y b L xs) (hk : 3 * k + 3 ≤ L) (hnx : zNext p l e s m args below meth c Q G b k) (I : zWI G κ μ ω D E n H locs) (hls : zLs G b ls k) (hc : cells ≤ 100 + 10 * k) (hs : slots ≤ 40000 + 200 * k) : W p l e room_1 s m args below meth c H locs cells slots Q (F0 m 128 ls []) := by
  obtain ⟨J, hE, hn, hD, hR, hl⟩ := I
  have F' := F
  obtain ⟨B, hy, hYB, hl9, hX, hbl, hG, hL⟩ := F'
  obtain ⟨hx, hb, -⟩ := id B
  have f0 := lv_at hls 0 rfl
  have f1 := lv_at hls 1 rfl
  have f2 := lv_at hls 2 rfl
  have f3 := lv_at hls 3 rfl
  have f4 := lv_at hls 4 rfl
  have fz := hls.1
  have hz0 : ∃ N : Nat, N ≤ 40 ∧ κ.1 0 = hz_n N ∧ ∀ p, p < 40 → 0 ≤ (κ.2.1 1 p).toInt ∧ (κ.2.1 1 p).toInt < 65536 := by
    obtain ⟨N, t, h1, h2, h3, h4⟩ := J.1
    exact ⟨N, h1, h2, fun p hp => by rw [(h4 p hp).2.1, zt (t p) (by have := (h4 p hp).1; omega)]; have := (h4 p hp).1; omega⟩
  obtain ⟨cx, hcx⟩ : ∃ z, z = hz_ch (xs (3 * k + 1)) := ⟨_, rfl⟩
  have zc : 0 ≤ cx.toInt ∧ cx.toInt < 65536 := by rw [hcx]; exact zch _
  refine lv_aload_n hx hb d_law_128 rfl f1 ?_
  refine law_rd (j := 1) F hk (by omega) hR hl f0 f4 d_law_129 d_law_130 d_law_132 d_law_133 d_law_134 ?_
  refine lv_i2c (v := hz_ch _) hx hb d_law_135 rfl ?_
  rw [← hcx]
  refine lv_aload_n hx hb d_law_136 rfl f3 ?_
  by_cases hx9 : 65 ≤ cx.toInt ∧ cx.toInt ≤ 90
  · obtain ⟨z1, z2, z3, z4, z5⟩ := zletter hx9
    obtain ⟨N, n1, n2, n3, a, ρ', μ', r1, r2, r3, r4⟩ := jDef (F := 1000) (by omega) z3 J
    rw [← z2] at r2
    refine wz_callSW (as2 := [.ref 0, .int cx, .ref 39]) (rest := []) B hYB hy xl_define_1 xl_define_2 xl_i xl_define_4 xd_define (k_L_define hl9 hn hD n1 n2 (fun q hq => zfits (n3 q (by omega))) (fun _ => r1)) (by decide) ⟨by show cells + 7 ≤ 601024; omega, by show slots + 161 ≤ 7293034; omega⟩ rfl (by simp [Value.category]) rfl d_law_137 hR hl fz ?_
    intro r9 h9 n9 H1 locs1 hp hR1 hl1
    rcases hp with ⟨-, rfl, rfl, rfl⟩ | ⟨hq, -⟩
    · change W p l e room_1 s m args below meth c H1 locs1 (cells + 7) (slots + 161) Q (F0 m 140 ls [.int (hz_n 0)])
      refine lv_istore (lv' := [(5, .int (hz_n 0)), (0, .ref b), (1, .ref G.2.2.size), (2, .ref (G.2.2.size + 15)), (3, .ref (G.2.2.size + 39)), (4, .int (hz_n (3 * k : Nat)))]) hx hb d_law_140 hls (by omega) rfl fun ls1 hl5 => ?_
      refine lv_aload_n hx hb d_law_142 rfl (lv_at hl5 3 rfl) ?_
      refine law_rd (j := 1) F hk (by omega) hR1 hl1 (lv_at hl5 1 rfl) (lv_at hl5 5 rfl) d_law_143 d_law_144 d_law_146 d_law_147 d_law_148 ?_
      refine lv_i2c (v := hz_ch _) hx hb d_law_149 rfl ?_
      rw [← hcx]
      refine wz_callV (as2 := [.int cx]) (i := 15) (ci := 5) (r := (R_M, T_M, 39)) (rest := []) B hy cb_L_44 im_M_define se_M_define (k_M_define r2) (by decide) ⟨by show cells + 7 + 0 ≤ 601024; omega, by show slots + 161 + 0 ≤ 7293034; omega⟩ rfl rfl rfl (by simp [Value.category]) rfl d_law_150 hR1 hl1 hl5.1 ?_
      intro r9 h9 n9 H2 locs2 hp hR2 hl2
      obtain ⟨rfl, rfl, rfl⟩ := hp
      change W p l e room_1 s m args below meth c H2 locs2 (cells + 7) (slots + 161) Q (F0 m 153 ls1 [.int a])
      refine lv_istore (lv' := [(6, .int a), (5, .int (hz_n 0)), (0, .ref b), (1, .ref G.2.2.size), (2, .ref (G.2.2.size + 15)), (3, .ref (G.2.2.size + 39)), (4, .int (hz_n (3 * k : Nat)))]) hx hb d_law_153 hl5 (by omega) rfl fun ls2 hl6 => ?_
      refine lv_aload_n hx hb d_law_155 rfl (lv_at hl6 4 rfl) ?_
      refine wz_callV (as2 := []) (i := 15) (ci := 5) (r := (R_M, T_M, 39)) (rest := []) B hy cb_L_45 im_M_thrown se_M_thrown k_M_thrown (by decide) ⟨by show cells + 7 + 0 ≤ 601024; omega, by show slots + 161 + 0 ≤ 7293034; omega⟩ rfl rfl rfl (by simp [Value.category]) rfl d_law_156 hR2 hl2 hl6.1 ?_
      intro r9 h9 n9 H3 locs3 hp hR3 hl3
      obtain ⟨rfl, rfl, rfl⟩ := hp
      change W p l e room_1 s m args below meth c H3 locs3 (cells + 7) (slots + 161) Q (F0 m 159 ls2 [.int _])
      refine lv_iload hx hb d_law_159 (lv_at hl6 1 rfl) ?_
      refine lv_icmp_eq hx hb d_law_161 (tgt := 166) rfl (fun _ => ?_) (fun hne => absurd r3 hne)
      have Jn : ∃ E', jI E' (if a.toInt < 0 then kS κ 0 (hz_n 0) else kQ (kS κ 0 (hz_n 0)) 3 (cx.toInt.toNat - 65) (some n)) μ' ∧ zE (zQ D n N ρ') E' := by
        rcases r4 with ⟨q1, q2⟩ | ⟨q1, q2⟩
        · rw [if_pos q1]
          exact ⟨E, q2, fun d T hd => zDf_lt hD (hE d T hd)⟩
        · rw [if_neg (by omega)]
          refine ⟨fun d => if d = n then some (N, ρ'.2 0, ρ'.2 1, ρ'.2 2, ρ'.1 0) else E d, q2 n _ (if_pos rfl) (fun l' d' hl' hd' => ?_), fun d T hd => ?_⟩
          · show (if d' = n then _ else E d') = E d'
            rcases J.2.2.2 l' hl' with ⟨u1, -⟩ | ⟨d2, T2, u1, u2, -⟩
            · rw [u1] at hd'; cases hd'
            · rw [u1] at hd'
              cases hd'
              have := zE_lt hE hD u2
              rw [if_neg (by omega)]
          · have hd' : (if d = n then some (N, ρ'.2 0, ρ'.2 1, ρ'.2 2, ρ'.1 0) else E d) = some T := hd
            by_cases e : d = n
            · rw [if_pos e] at hd'
              cases hd'
              rw [e]
              exact zDf_Q hn
            · rw [if_neg e] at hd'
              exact zDf_lt hD (hE d T hd')
      obtain ⟨E', J1, J2⟩ := Jn
      refine lv_iload hx hb d_law_166 (lv_at hl6 1 rfl) ?_
      refine lv_if_ne hx hb d_law_168 (tgt := 183) rfl (fun hne => absurd rfl hne) (fun _ => ?_)
      exact law_eqL F hnx ⟨J1, J2, by omega, zQ_none, hR3, hl3⟩ rfl hl6 (by omega) (by omega) d_law_171 d_law_172 d_law_173 d_law_174 d_law_176 d_law_177 d_law_178 rfl d_law_183 rfl
    · exact absurd hx9 hq
  · obtain ⟨N, n1, n2, n3⟩ := hz0
    have r2 : m_define μ 1000 cx = some (hz_n 0, mS μ 10 (hz_n 1)) := by unfold m_define; rw [if_neg hx9]
    refine wz_callSW (as2 := [.ref 0, .int cx, .ref 39]) (rest := []) B hYB hy xl_define_1 xl_define_2 xl_i xl_define_4 xd_define (k_L_define (a := 0) (ρ' := μ) hl9 hn hD n1 n2 (fun q hq => zfits (n3 q (by omega))) (fun q => absurd q hx9)) (by decide) ⟨by show cells + 7 ≤ 601024; omega, by show slots + 161 ≤ 7293034; omega⟩ rfl (by simp [Value.category]) rfl d_law_137 hR hl fz ?_
    intro r9 h9 n9 H1 locs1 hp hR1 hl1
    rcases hp with ⟨hq, -⟩ | ⟨-, rfl, rfl, hn9⟩
    · exact absurd hq hx9
    · change W p l e room_1 s m args below meth c H1 locs1 (cells + 7) (slots + 161) Q (F0 m 140 ls [.int (hz_n 1)])
      refine lv_istore (lv' := [(5, .int (hz_n 1)), (0, .ref b), (1, .ref G.2.2.size), (2, .ref (G.2.2.size + 15)), (3, .ref (G.2.2.size + 39)), (4, .int (hz_n (3 * k : Nat)))]) hx hb d_law_140 hls (by omega) rfl fun ls1 hl5 => ?_
      refine lv_aload_n hx hb d_law_142 rfl (lv_at hl5 3 rfl) ?_
      refine law_rd (j := 1) F hk (by omega) hR1 hl1 (lv_at hl5 1 rfl) (lv_at hl5 5 rfl) d_law_143 d_law_144 d_law_146 d_law_147 d_law_148 ?_
      refine lv_i2c (v := hz_ch _) hx hb d_law_149 rfl ?_
      rw [← hcx]
      refine wz_callV (as2 := [.int cx]) (i := 15) (ci := 5) (r := (R_M, T_M, 39)) (rest := []) B hy cb_L_44 im_M_define se_M_define (k_M_define r2) (by decide) ⟨by show cells + 7 + 0 ≤ 601024; omega, by show slots + 161 + 0 ≤ 7293034; omega⟩ rfl rfl rfl (by simp [Value.category]) rfl d_law_150 hR1 hl1 hl5.1 ?_
      intro r9 h9 n9 H2 locs2 hp hR2 hl2
      obtain ⟨rfl, rfl, rfl⟩ := hp
      change W p l e room_1 s m args below meth c H2 locs2 (cells + 7) (slots + 161) Q (F0 m 153 ls1 [.int (hz_n 0)])
      refine lv_istore (lv' := [(6, .int (hz_n 0)), (5, .int (hz_n 1)), (0, .ref b), (1, .ref G.2.2.size), (2, .ref (G.2.2.size + 15)), (3, .ref (G.2.2.size + 39)), (4, .int (hz_n (3 * k : Nat)))]) hx hb d_law_153 hl5 (by omega) rfl fun ls2 hl6 => ?_
      refine lv_aload_n hx hb d_law_155 rfl (lv_at hl6 4 rfl) ?_
      refine wz_callV (as2 := []) (i := 15) (ci := 5) (r := (R_M, T_M, 39)) (rest := []) B hy cb_L_45 im_M_thrown se_M_thrown k_M_thrown (by decide) ⟨by show cells + 7 + 0 ≤ 601024; omega, by show slots + 161 + 0 ≤ 7293034; omega⟩ rfl rfl rfl (by simp [Value.category]) rfl d_law_156 hR2 hl2 hl6.1 ?_
      intro r9 h9 n9 H3 locs3 hp hR3 hl3
      obtain ⟨rfl, rfl, rfl⟩ := hp
      change W p l e room_1 s m args below meth c H3 locs3 (cells + 7) (slots + 161) Q (F0 m 159 ls2 [.int _])
      refine lv_iload hx hb d_law_159 (lv_at hl6 1 rfl) ?_
      refine lv_icmp_eq hx hb d_law_161 (tgt := 166) rfl (fun _ => ?_) (fun hne => absurd rfl hne)
      refine lv_iload hx hb d_law_166 (lv_at hl6 1 rfl) ?_
      refine lv_if_ne hx hb d_law_168 (tgt := 183) rfl (fun _ => ?_) (fun he => absurd he (by decide))
      refine lv_goto hx hb d_law_183 (tgt := 372) rfl ?_
      exact hnx _ _ _ _ _ _ _ _ _ _ _ ⟨jI_S (by decide) J, hE, by omega, fun i hi => hD i (by omega), hR3, hl3⟩ (lv_sub hl6 [2, 3, 4, 5, 6] rfl) (by omega) (by omega)
theorem law_forget (F : zLF p l s m args meth c G y b L xs) (hk : 3 * k + 3 ≤ L) (hnx : zNext p l e s m args below meth c Q G b k) (I : zWI G κ μ ω D E n H locs) (hls : zLs G b ls k) (hc : cells ≤ 100 + 10 * k) (hs : slots ≤ 40000 + 200 * k) : W p l e room_1 s m args below meth c H locs cells slots Q (F0 m 186 ls []) := by
  obtain ⟨J, hE, hn, hD, hR, hl⟩ := I
  have F' := F
  obtain ⟨B, hy, hYB, hl9, hX, hbl, hG, hL⟩ := F'
  obtain ⟨hx, hb, -⟩ := id B
  have f0 := lv_at hls 0 rfl
  have f1 := lv_at hls 1 rfl
  have f2 := lv_at hls 2 rfl
  have f3 := lv_at hls 3 rfl
  have f4 := lv_at hls 4 rfl
  have fz := hls.1
  obtain ⟨cx, hcx⟩ : ∃ z, z = hz_ch (xs (3 * k + 1)) := ⟨_, rfl⟩
  have zc : 0 ≤ cx.toInt ∧ cx.toInt < 65536 := by rw [hcx]; exact zch _
  refine lv_aload_n hx hb d_law_186 rfl f1 ?_
  refine law_rd (j := 1) F hk (by omega) hR hl f0 f4 d_law_187 d_law_188 d_law_190 d_law_191 d_law_192 ?_
  refine lv_i2c (v := hz_ch _) hx hb d_law_193 rfl ?_
  rw [← hcx]
  refine wz_callSW (as2 := [.ref 0, .int cx]) (rest := []) B hYB hy xl_forget_1 xl_forget_2 xl_i xl_forget_4 xd_forget (k_L_forget hl9) (by decide) ⟨by show cells + 2 ≤ 601024; omega, by show slots + 12 ≤ 7293034; omega⟩ rfl (by simp [Value.category]) rfl d_law_194 hR hl fz ?_
  intro r9 h9 n9 H1 locs1 hp hR1 hl1
  obtain ⟨hn9, hp⟩ := hp
  rcases hp with ⟨hx9, hq, rfl, rfl⟩ | ⟨hx9, rfl, rfl⟩ | ⟨hx9, hq, rfl, rfl⟩
  · change W p l e room_1 s m args below meth c H1 locs1 (cells + 2) (slots + 12) Q (F0 m 197 ls [.int (hz_n 0)])
    obtain ⟨z1, z2, z3, z4, z5⟩ := zletter hx9
    have jf := jForget z3 J
    rw [← z2] at jf
    obtain ⟨μ', -, r2, r3, J1⟩ := jf.resolve_left (fun q => hq q.1)
    refine lv_istore (lv' := [(5, .int (hz_n 0)), (0, .ref b), (1, .ref G.2.2.size), (2, .ref (G.2.2.size + 15)), (3, .ref (G.2.2.size + 39)), (4, .int (hz_n (3 * k : Nat)))]) hx hb d_law_197 hls (by omega) rfl fun ls1 hl5 => ?_
    refine lv_aload_n hx hb d_law_199 rfl (lv_at hl5 3 rfl) ?_
    refine law_rd (j := 1) F hk (by omega) hR1 hl1 (lv_at hl5 1 rfl) (lv_at hl5 5 rfl) d_law_200 d_law_201 d_law_203 d_law_204 d_law_205 ?_
    refine lv_i2c (v := hz_ch _) hx hb d_law_206 rfl ?_
    rw [← hcx]
    refine wz_callV (as2 := [.int cx]) (i := 15) (ci := 5) (r := (R_M, T_M, 39)) (rest := []) B hy cb_L_51 im_M_forget se_M_forget (k_M_forget r2) (by decide) ⟨by show cells + 2 + 0 ≤ 601024; omega, by show slots + 12 + 0 ≤ 7293034; omega⟩ rfl rfl rfl (by simp [Value.category]) rfl d_law_207 hR1 hl1 hl5.1 ?_
    intro r9 h9 n9 H2 locs2 hp hR2 hl2
    obtain ⟨rfl, rfl, rfl⟩ := hp
    change W p l e room_1 s m args below meth c H2 locs2 (cells + 2) (slots + 12) Q (F0 m 210 ls1 [])
    refine lv_aload_n hx hb d_law_210 rfl (lv_at hl5 3 rfl) ?_
    refine wz_callV (as2 := []) (i := 15) (ci := 5) (r := (R_M, T_M, 39)) (rest := []) B hy cb_L_45 im_M_thrown se_M_thrown k_M_thrown (by decide) ⟨by show cells + 2 + 0 ≤ 601024; omega, by show slots + 12 + 0 ≤ 7293034; omega⟩ rfl rfl rfl (by simp [Value.category]) rfl d_law_211 hR2 hl2 hl5.1 ?_
    intro r9 h9 n9 H3 locs3 hp hR3 hl3
    obtain ⟨rfl, rfl, rfl⟩ := hp
    change W p l e room_1 s m args below meth c H3 locs3 (cells + 2) (slots + 12) Q (F0 m 214 ls1 [.int _])
    refine lv_iload hx hb d_law_214 (lv_at hl5 0 rfl) ?_
    refine lv_icmp_eq hx hb d_law_216 (tgt := 221) rfl (fun _ => ?_) (fun hne => absurd r3 hne)
    refine lv_goto hx hb d_law_221 (tgt := 372) rfl ?_
    exact hnx _ _ _ _ _ _ _ _ _ _ _ ⟨J1, hE, by omega, fun i hi => hD i (by omega), hR3, hl3⟩ (lv_sub hl5 [1, 2, 3, 4, 5] rfl) (by omega) (by omega)
  · change W p l e room_1 s m args below meth c H1 locs1 (cells + 2) (slots + 12) Q (F0 m 197 ls [.int (hz_n 1)])
    have r2 : m_forget μ cx = some (mS μ 10 (hz_n 1)) := by unfold m_forget; rw [if_neg hx9]
    refine lv_istore (lv' := [(5, .int (hz_n 1)), (0, .ref b), (1, .ref G.2.2.size), (2, .ref (G.2.2.size + 15)), (3, .ref (G.2.2.size + 39)), (4, .int (hz_n (3 * k : Nat)))]) hx hb d_law_197 hls (by omega) rfl fun ls1 hl5 => ?_
    refine lv_aload_n hx hb d_law_199 rfl (lv_at hl5 3 rfl) ?_
    refine law_rd (j := 1) F hk (by omega) hR1 hl1 (lv_at hl5 1 rfl) (lv_at hl5 5 rfl) d_law_200 d_law_201 d_law_203 d_law_204 d_law_205 ?_
    refine lv_i2c (v := hz_ch _) hx hb d_law_206 rfl ?_
    rw [← hcx]
    refine wz_callV (as2 := [.int cx]) (i := 15) (ci := 5) (r := (R_M, T_M, 39)) (rest := []) B hy cb_L_51 im_M_forget se_M_forget (k_M_forget r2) (by decide) ⟨by show cells + 2 + 0 ≤ 601024; omega, by show slots + 12 + 0 ≤ 7293034; omega⟩ rfl rfl rfl (by simp [Value.category]) rfl d_law_207 hR1 hl1 hl5.1 ?_
    intro r9 h9 n9 H2 locs2 hp hR2 hl2
    obtain ⟨rfl, rfl, rfl⟩ := hp
    change W p l e room_1 s m args below meth c H2 locs2 (cells + 2) (slots + 12) Q (F0 m 210 ls1 [])
    refine lv_aload_n hx hb d_law_210 rfl (lv_at hl5 3 rfl) ?_
    refine wz_callV (as2 := []) (i := 15) (ci := 5) (r := (R_M, T_M, 39)) (rest := []) B hy cb_L_45 im_M_thrown se_M_thrown k_M_thrown (by decide) ⟨by show cells + 2 + 0 ≤ 601024; omega, by show slots + 12 + 0 ≤ 7293034; omega⟩ rfl rfl rfl (by simp [Value.category]) rfl d_law_211 hR2 hl2 hl5.1 ?_
    intro r9 h9 n9 H3 locs3 hp hR3 hl3
    obtain ⟨rfl, rfl, rfl⟩ := hp
    change W p l e room_1 s m args below meth c H3 locs3 (cells + 2) (slots + 12) Q (F0 m 214 ls1 [.int _])
    refine lv_iload hx hb d_law_214 (lv_at hl5 0 rfl) ?_
    refine lv_icmp_eq hx hb d_law_216 (tgt := 221) rfl (fun _ => ?_) (fun hne => absurd rfl hne)
    refine lv_goto hx hb d_law_221 (tgt := 372) rfl ?_
    exact hnx _ _ _ _ _ _ _ _ _ _ _ ⟨jI_S (by decide) J, hE, by omega, fun i hi => hD i (by omega), hR3, hl3⟩ (lv_sub hl5 [1, 2, 3, 4, 5] rfl) (by omega) (by omega)
  · change W p l e room_1 s m args below meth c H1 locs1 (cells + 2) (slots + 12) Q (F0 m 197 ls [.int (hz_n 2)])
    obtain ⟨z1, z2, z3, z4, z5⟩ := zletter hx9
    have jf := jForget z3 J
    rw [← z2] at jf
    obtain ⟨-, r2⟩ := jf.resolve_right (fun ⟨_, q, _⟩ => q hq)
    refine lv_istore (lv' := [(5, .int (hz_n 2)), (0, .ref b), (1, .ref G.2.2.size), (2, .ref (G.2.2.size + 15)), (3, .ref (G.2.2.size + 39)), (4, .int (hz_n (3 * k : Nat)))]) hx hb d_law_197 hls (by omega) rfl fun ls1 hl5 => ?_
    refine lv_aload_n hx hb d_law_199 rfl (lv_at hl5 3 rfl) ?_
    refine law_rd (j := 1) F hk (by omega) hR1 hl1 (lv_at hl5 1 rfl) (lv_at hl5 5 rfl) d_law_200 d_law_201 d_law_203 d_law_204 d_law_205 ?_
    refine lv_i2c (v := hz_ch _) hx hb d_law_206 rfl ?_
    rw [← hcx]
    refine wz_callV (as2 := [.int cx]) (i := 15) (ci := 5) (r := (R_M, T_M, 39)) (rest := []) B hy cb_L_51 im_M_forget se_M_forget (k_M_forget r2) (by decide) ⟨by show cells + 2 + 0 ≤ 601024; omega, by show slots + 12 + 0 ≤ 7293034; omega⟩ rfl rfl rfl (by simp [Value.category]) rfl d_law_207 hR1 hl1 hl5.1 ?_
    intro r9 h9 n9 H2 locs2 hp hR2 hl2
    obtain ⟨rfl, rfl, rfl⟩ := hp
    change W p l e room_1 s m args below meth c H2 locs2 (cells + 2) (slots + 12) Q (F0 m 210 ls1 [])
    refine lv_aload_n hx hb d_law_210 rfl (lv_at hl5 3 rfl) ?_
    refine wz_callV (as2 := []) (i := 15) (ci := 5) (r := (R_M, T_M, 39)) (rest := []) B hy cb_L_45 im_M_thrown se_M_thrown k_M_thrown (by decide) ⟨by show cells + 2 + 0 ≤ 601024; omega, by show slots + 12 + 0 ≤ 7293034; omega⟩ rfl rfl rfl (by simp [Value.category]) rfl d_law_211 hR2 hl2 hl5.1 ?_
    intro r9 h9 n9 H3 locs3 hp hR3 hl3
    obtain ⟨rfl, rfl, rfl⟩ := hp
    change W p l e room_1 s m args below meth c H3 locs3 (cells + 2) (slots + 12) Q (F0 m 214 ls1 [.int _])
    refine lv_iload hx hb d_law_214 (lv_at hl5 0 rfl) ?_
    refine lv_icmp_eq hx hb d_law_216 (tgt := 221) rfl (fun _ => ?_) (fun hne => absurd rfl hne)
    refine lv_goto hx hb d_law_221 (tgt := 372) rfl ?_
    exact hnx _ _ _ _ _ _ _ _ _ _ _ ⟨jI_S (by decide) J, hE, by omega, fun i hi => hD i (by omega), hR3, hl3⟩ (lv_sub hl5 [1, 2, 3, 4, 5] rfl) (by omega) (by omega)
theorem law_run (F : zLF p l s m args meth c G y b L xs) (hk : 3 * k + 3 ≤ L) (hnx : zNext p l e s m args below meth c Q G b k) (I : zWI G κ μ ω D E n H locs) (hls : zLs G b ls k) (hc : cells ≤ 100 + 10 * k) (hs : slots ≤ 40000 + 200 * k) : W p l e room_1 s m args below meth c H locs cells slots Q (F0 m 251 ls []) := by
  obtain ⟨J, hE, hn, hD, hR, hl⟩ := I
  have F' := F
  obtain ⟨B, hy, hYB, hl9, hX, hbl, hG, hL⟩ := F'
  obtain ⟨hx, hb, -⟩ := id B
  have f0 := lv_at hls 0 rfl
  have f1 := lv_at hls 1 rfl
  have f2 := lv_at hls 2 rfl
  have f3 := lv_at hls 3 rfl
  have f4 := lv_at hls 4 rfl
  have fz := hls.1
  obtain ⟨cx, hcx⟩ : ∃ z, z = hz_ch (xs (3 * k + 1)) := ⟨_, rfl⟩
  have zc : 0 ≤ cx.toInt ∧ cx.toInt < 65536 := by rw [hcx]; exact zch _
  obtain ⟨cy, hcy⟩ : ∃ z, z = xs (3 * k + 2) := ⟨_, rfl⟩
  have hlet : ∃ (κ2 : zK), ((65 ≤ cx.toInt ∧ cx.toInt ≤ 90) → (1 ≤ cy.toInt ∧ cy.toInt ≤ 50) → κ.2.2 3 (cx.toInt.toNat - 65) ≠ none → (∃ κ1, g_begin κ (cx - hz_n 65) cy = some κ1 ∧ g_write κ1 E = some κ2) ∧ ∃ N v μ', m_run μ 1000 N cx cy = some (v, μ') ∧ μ'.1 10 = hz_n 0 ∧ v = (if (κ2.1 5).toInt = 0 then κ2.1 6 else κ2.1 5) ∧ jI E κ2 μ') := by
    by_cases hh : (65 ≤ cx.toInt ∧ cx.toInt ≤ 90) ∧ (1 ≤ cy.toInt ∧ cy.toInt ≤ 50) ∧ κ.2.2 3 (cx.toInt.toNat - 65) ≠ none
    · obtain ⟨q1, q2, q3⟩ := hh
      obtain ⟨z1, z2, z3, z4, z5⟩ := zletter q1
      have ey : hz_n (cy.toInt.toNat : Nat) = cy := by
        have e1 : ((cy.toInt.toNat : Nat) : Int) = cy.toInt := by omega
        rw [e1]; exact zn_of cy
      have jr := jRun (F := 1000) (am := cy.toInt.toNat) (by omega) z3 (by omega) J
      rw [← z2, ey, ← z1] at jr
      obtain ⟨κ1, κ2, N, v, μ', -, g1, g2, g3, g4, g5, g6⟩ := jr.resolve_left (fun q => q3 q.1)
      exact ⟨κ2, fun _ _ _ => ⟨⟨κ1, g1, g2⟩, N, v, μ', g3, g4, g5, g6⟩⟩
    · exact ⟨κ, fun q1 q2 q3 => absurd ⟨q1, q2, q3⟩ hh⟩
  obtain ⟨κ2, hk2⟩ := hlet
  refine lv_aload_n hx hb d_law_251 rfl f1 ?_
  refine law_rd (j := 1) F hk (by omega) hR hl f0 f4 d_law_252 d_law_253 d_law_255 d_law_256 d_law_257 ?_
  refine lv_i2c (v := hz_ch _) hx hb d_law_258 rfl ?_
  rw [← hcx]
  refine law_rd (j := 2) F hk (by omega) hR hl f0 f4 d_law_259 d_law_260 d_law_262 d_law_263 d_law_264 ?_
  rw [← hcy]
  refine lv_aload_n hx hb d_law_265 rfl f3 ?_
  refine wz_callSW (as2 := [.ref 0, .int cx, .int cy, .ref 39]) (rest := []) B hYB hy xl_run_1 xl_run_2 xl_i xl_run_4 xd_run (k_L_run (κ2 := κ2) hl9 hE (fun q1 q2 q3 => (hk2 q1 q2 q3).1)) (by decide) ⟨by show cells + 3 ≤ 601024; omega, by show slots + 18 ≤ 7293034; omega⟩ rfl (by simp [Value.category]) rfl d_law_266 hR hl fz ?_
  intro r9 h9 n9 H1 locs1 hp hR1 hl1
  obtain ⟨hn9, hp⟩ := hp
  rcases hp with ⟨hx9, hy9, hq, rfl, rfl⟩ | ⟨hx9, rfl, rfl⟩ | ⟨hx9, hy9, hq, rfl, rfl⟩
  · change W p l e room_1 s m args below meth c H1 locs1 (cells + 3) (slots + 18) Q (F0 m 269 ls [.int (hz_n 0)])
    obtain ⟨-, N, v, μ', r2, r3, r4, J1⟩ := hk2 hx9 hy9 hq
    refine lv_istore (lv' := [(5, .int (hz_n 0)), (0, .ref b), (1, .ref G.2.2.size), (2, .ref (G.2.2.size + 15)), (3, .ref (G.2.2.size + 39)), (4, .int (hz_n (3 * k : Nat)))]) hx hb d_law_269 hls (by omega) rfl fun ls1 hl5 => ?_
    refine lv_aload_n hx hb d_law_271 rfl (lv_at hl5 3 rfl) ?_
    refine law_rd (j := 1) F hk (by omega) hR1 hl1 (lv_at hl5 1 rfl) (lv_at hl5 5 rfl) d_law_272 d_law_273 d_law_275 d_law_276 d_law_277 ?_
    refine lv_i2c (v := hz_ch _) hx hb d_law_278 rfl ?_
    rw [← hcx]
    refine law_rd (j := 2) F hk (by omega) hR1 hl1 (lv_at hl5 1 rfl) (lv_at hl5 5 rfl) d_law_279 d_law_280 d_law_282 d_law_283 d_law_284 ?_
    rw [← hcy]
    refine wz_callV (as2 := [.int cx, .int cy]) (i := 15) (ci := 5) (r := (R_M, T_M, 39)) (rest := []) B hy cb_L_59 im_M_run se_M_run (k_M_run r2) (by decide) ⟨by show cells + 3 + 0 ≤ 601024; omega, by show slots + 18 + 0 ≤ 7293034; omega⟩ rfl rfl rfl (by simp [Value.category]) rfl d_law_285 hR1 hl1 hl5.1 ?_
    intro r9 h9 n9 H2 locs2 hp hR2 hl2
    obtain ⟨rfl, rfl, rfl⟩ := hp
    change W p l e room_1 s m args below meth c H2 locs2 (cells + 3) (slots + 18) Q (F0 m 288 ls1 [.int v])
    refine lv_istore (lv' := [(6, .int v), (5, .int (hz_n 0)), (0, .ref b), (1, .ref G.2.2.size), (2, .ref (G.2.2.size + 15)), (3, .ref (G.2.2.size + 39)), (4, .int (hz_n (3 * k : Nat)))]) hx hb d_law_288 hl5 (by omega) rfl fun ls2 hl6 => ?_
    refine lv_aload_n hx hb d_law_290 rfl (lv_at hl6 4 rfl) ?_
    refine wz_callV (as2 := []) (i := 15) (ci := 5) (r := (R_M, T_M, 39)) (rest := []) B hy cb_L_45 im_M_thrown se_M_thrown k_M_thrown (by decide) ⟨by show cells + 3 + 0 ≤ 601024; omega, by show slots + 18 + 0 ≤ 7293034; omega⟩ rfl rfl rfl (by simp [Value.category]) rfl d_law_291 hR2 hl2 hl6.1 ?_
    intro r9 h9 n9 H3 locs3 hp hR3 hl3
    obtain ⟨rfl, rfl, rfl⟩ := hp
    change W p l e room_1 s m args below meth c H3 locs3 (cells + 3) (slots + 18) Q (F0 m 294 ls2 [.int _])
    refine lv_iload hx hb d_law_294 (lv_at hl6 1 rfl) ?_
    refine lv_icmp_eq hx hb d_law_296 (tgt := 301) rfl (fun _ => ?_) (fun hne => absurd r3 hne)
    refine lv_iload hx hb d_law_301 (lv_at hl6 1 rfl) ?_
    refine lv_if_ne hx hb d_law_303 (tgt := 318) rfl (fun hne => absurd rfl hne) (fun _ => ?_)
    exact law_eqL F hnx ⟨J1, hE, by omega, fun i hi => hD i (by omega), hR3, hl3⟩ (by rw [r4]; rfl) hl6 (by omega) (by omega) d_law_306 d_law_307 d_law_308 d_law_309 d_law_311 d_law_312 d_law_313 rfl d_law_318 rfl
  · change W p l e room_1 s m args below meth c H1 locs1 (cells + 3) (slots + 18) Q (F0 m 269 ls [.int (hz_n 1)])
    have r2 : ∀ N, m_run μ 1000 N cx cy = some (hz_n 0, mS μ 10 (hz_n 1)) := fun N => by
      unfold m_run
      by_cases hx8 : 65 ≤ cx.toInt ∧ cx.toInt ≤ 90
      · rw [if_pos hx8]
        by_cases hy8 : cy.toInt < 1
        · rw [if_pos hy8]
        · rw [if_neg hy8, if_neg (fun q => hx9 ⟨hx8, by omega, q⟩)]
      · rw [if_neg hx8]
    have r2 := r2 0
    refine lv_istore (lv' := [(5, .int (hz_n 1)), (0, .ref b), (1, .ref G.2.2.size), (2, .ref (G.2.2.size + 15)), (3, .ref (G.2.2.size + 39)), (4, .int (hz_n (3 * k : Nat)))]) hx hb d_law_269 hls (by omega) rfl fun ls1 hl5 => ?_
    refine lv_aload_n hx hb d_law_271 rfl (lv_at hl5 3 rfl) ?_
    refine law_rd (j := 1) F hk (by omega) hR1 hl1 (lv_at hl5 1 rfl) (lv_at hl5 5 rfl) d_law_272 d_law_273 d_law_275 d_law_276 d_law_277 ?_
    refine lv_i2c (v := hz_ch _) hx hb d_law_278 rfl ?_
    rw [← hcx]
    refine law_rd (j := 2) F hk (by omega) hR1 hl1 (lv_at hl5 1 rfl) (lv_at hl5 5 rfl) d_law_279 d_law_280 d_law_282 d_law_283 d_law_284 ?_
    rw [← hcy]
    refine wz_callV (as2 := [.int cx, .int cy]) (i := 15) (ci := 5) (r := (R_M, T_M, 39)) (rest := []) B hy cb_L_59 im_M_run se_M_run (k_M_run r2) (by decide) ⟨by show cells + 3 + 0 ≤ 601024; omega, by show slots + 18 + 0 ≤ 7293034; omega⟩ rfl rfl rfl (by simp [Value.category]) rfl d_law_285 hR1 hl1 hl5.1 ?_
    intro r9 h9 n9 H2 locs2 hp hR2 hl2
    obtain ⟨rfl, rfl, rfl⟩ := hp
    change W p l e room_1 s m args below meth c H2 locs2 (cells + 3) (slots + 18) Q (F0 m 288 ls1 [.int (hz_n 0)])
    refine lv_istore (lv' := [(6, .int (hz_n 0)), (5, .int (hz_n 1)), (0, .ref b), (1, .ref G.2.2.size), (2, .ref (G.2.2.size + 15)), (3, .ref (G.2.2.size + 39)), (4, .int (hz_n (3 * k : Nat)))]) hx hb d_law_288 hl5 (by omega) rfl fun ls2 hl6 => ?_
    refine lv_aload_n hx hb d_law_290 rfl (lv_at hl6 4 rfl) ?_
    refine wz_callV (as2 := []) (i := 15) (ci := 5) (r := (R_M, T_M, 39)) (rest := []) B hy cb_L_45 im_M_thrown se_M_thrown k_M_thrown (by decide) ⟨by show cells + 3 + 0 ≤ 601024; omega, by show slots + 18 + 0 ≤ 7293034; omega⟩ rfl rfl rfl (by simp [Value.category]) rfl d_law_291 hR2 hl2 hl6.1 ?_
    intro r9 h9 n9 H3 locs3 hp hR3 hl3
    obtain ⟨rfl, rfl, rfl⟩ := hp
    change W p l e room_1 s m args below meth c H3 locs3 (cells + 3) (slots + 18) Q (F0 m 294 ls2 [.int _])
    refine lv_iload hx hb d_law_294 (lv_at hl6 1 rfl) ?_
    refine lv_icmp_eq hx hb d_law_296 (tgt := 301) rfl (fun _ => ?_) (fun hne => absurd rfl hne)
    refine lv_iload hx hb d_law_301 (lv_at hl6 1 rfl) ?_
    refine lv_if_ne hx hb d_law_303 (tgt := 318) rfl (fun _ => ?_) (fun he => absurd he (by decide))
    refine lv_goto hx hb d_law_318 (tgt := 372) rfl ?_
    exact hnx _ _ _ _ _ _ _ _ _ _ _ ⟨jI_S (by decide) J, hE, by omega, fun i hi => hD i (by omega), hR3, hl3⟩ (lv_sub hl6 [2, 3, 4, 5, 6] rfl) (by omega) (by omega)
  · change W p l e room_1 s m args below meth c H1 locs1 (cells + 3) (slots + 18) Q (F0 m 269 ls [.int (hz_n 2)])
    obtain ⟨z1, z2, z3, z4, z5⟩ := zletter hx9
    have ey : hz_n (cy.toInt.toNat : Nat) = cy := by
      have e1 : ((cy.toInt.toNat : Nat) : Int) = cy.toInt := by omega
      rw [e1]; exact zn_of cy
    have jr := jRun (F := 1000) (am := cy.toInt.toNat) (by omega) z3 (by omega) J
    rw [← z2, ey, ← z1] at jr
    have r2 := (jr.resolve_right (fun ⟨_, _, _, _, _, q, _⟩ => q hq)).2 0
    refine lv_istore (lv' := [(5, .int (hz_n 2)), (0, .ref b), (1, .ref G.2.2.size), (2, .ref (G.2.2.size + 15)), (3, .ref (G.2.2.size + 39)), (4, .int (hz_n (3 * k : Nat)))]) hx hb d_law_269 hls (by omega) rfl fun ls1 hl5 => ?_
    refine lv_aload_n hx hb d_law_271 rfl (lv_at hl5 3 rfl) ?_
    refine law_rd (j := 1) F hk (by omega) hR1 hl1 (lv_at hl5 1 rfl) (lv_at hl5 5 rfl) d_law_272 d_law_273 d_law_275 d_law_276 d_law_277 ?_
    refine lv_i2c (v := hz_ch _) hx hb d_law_278 rfl ?_
    rw [← hcx]
    refine law_rd (j := 2) F hk (by omega) hR1 hl1 (lv_at hl5 1 rfl) (lv_at hl5 5 rfl) d_law_279 d_law_280 d_law_282 d_law_283 d_law_284 ?_
    rw [← hcy]
    refine wz_callV (as2 := [.int cx, .int cy]) (i := 15) (ci := 5) (r := (R_M, T_M, 39)) (rest := []) B hy cb_L_59 im_M_run se_M_run (k_M_run r2) (by decide) ⟨by show cells + 3 + 0 ≤ 601024; omega, by show slots + 18 + 0 ≤ 7293034; omega⟩ rfl rfl rfl (by simp [Value.category]) rfl d_law_285 hR1 hl1 hl5.1 ?_
    intro r9 h9 n9 H2 locs2 hp hR2 hl2
    obtain ⟨rfl, rfl, rfl⟩ := hp
    change W p l e room_1 s m args below meth c H2 locs2 (cells + 3) (slots + 18) Q (F0 m 288 ls1 [.int (hz_n 0)])
    refine lv_istore (lv' := [(6, .int (hz_n 0)), (5, .int (hz_n 2)), (0, .ref b), (1, .ref G.2.2.size), (2, .ref (G.2.2.size + 15)), (3, .ref (G.2.2.size + 39)), (4, .int (hz_n (3 * k : Nat)))]) hx hb d_law_288 hl5 (by omega) rfl fun ls2 hl6 => ?_
    refine lv_aload_n hx hb d_law_290 rfl (lv_at hl6 4 rfl) ?_
    refine wz_callV (as2 := []) (i := 15) (ci := 5) (r := (R_M, T_M, 39)) (rest := []) B hy cb_L_45 im_M_thrown se_M_thrown k_M_thrown (by decide) ⟨by show cells + 3 + 0 ≤ 601024; omega, by show slots + 18 + 0 ≤ 7293034; omega⟩ rfl rfl rfl (by simp [Value.category]) rfl d_law_291 hR2 hl2 hl6.1 ?_
    intro r9 h9 n9 H3 locs3 hp hR3 hl3
    obtain ⟨rfl, rfl, rfl⟩ := hp
    change W p l e room_1 s m args below meth c H3 locs3 (cells + 3) (slots + 18) Q (F0 m 294 ls2 [.int _])
    refine lv_iload hx hb d_law_294 (lv_at hl6 1 rfl) ?_
    refine lv_icmp_eq hx hb d_law_296 (tgt := 301) rfl (fun _ => ?_) (fun hne => absurd rfl hne)
    refine lv_iload hx hb d_law_301 (lv_at hl6 1 rfl) ?_
    refine lv_if_ne hx hb d_law_303 (tgt := 318) rfl (fun _ => ?_) (fun he => absurd he (by decide))
    refine lv_goto hx hb d_law_318 (tgt := 372) rfl ?_
    exact hnx _ _ _ _ _ _ _ _ _ _ _ ⟨jI_S (by decide) J, hE, by omega, fun i hi => hD i (by omega), hR3, hl3⟩ (lv_sub hl6 [2, 3, 4, 5, 6] rfl) (by omega) (by omega)
end
