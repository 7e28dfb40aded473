/-! A char answered is what is kept of the int on the stack. -/
theorem z_nch (v : Int32) : narrow .char (.int v) = .int (hz_ch v) := by
  show Value.int v.toUInt32.toUInt16.toUInt32.toInt32 = Value.int (hz_ch v)
  unfold hz_ch
  congr 2
section
variable {tbl : List Cond} {AO : List String} {cl : List vw_C} {KT : List FieldType} {l : Launch} {y : MethodName} {cc : ByteArray} {nL : Nat} {G : hz_G} {h : hz_H} {n : Nat} {post : Option Value → hz_H → Nat → Prop} {p : Program} {e : Env} {R : Room} {s : State} {m : MethodId} {args : Array Value} {below : List Frame} {meth : Method} {c : Code} {cells slots mc ms : Nat} {pc : Nat} {L : List (Option Value)}
theorem hz_iretn {ty : FieldType} {v v' : Int32} (B : hz_B tbl AO cl KT G y cc nL (some ty) p s m args meth c) (hn : narrow ty (.int v) = .int v') (hp : post (some (.int v')) h n) (h1 : cells ≤ mc) (h2 : slots ≤ ms) (hdg : decode cc pc = .ok (.ireturn, 1)) :
    hz_g cl G p l e R s m args below meth c nL (MQ below (hz_Q cl G post) args s mc ms (fun q => G.2.2.size ≤ q)) n cells slots pc L [.int v] h := by
  intro H locs ls hR hl hL
  refine W.widen h1 h2 ?_
  obtain ⟨hx, hb, b3, hr, hlocks, b6, b7, b8, b9, b10⟩ := id B
  intro T hT X
  obtain ⟨fs, hret, hrun, hended, hW, hframe⟩ := X.leave (v := some (.int v')) (fun h => by rw [hr] at h; cases h)
  have hmeth' : T.vm.method? m = some meth := X.method'
  refine ⟨T.setFrames fs, ?_, .returned (some (.int v')), hrun, hended, ⟨some (.int v'), h, n, rfl, hp, by show hz_R cl G h n T.heap; rw [hT]; exact hR⟩, locs, ⟨⟨_, rfl⟩, hW, hframe⟩, hl⟩
  show Steps p.tables e below (T.setTop (F0 m pc ls [.int v])) (T.setFrames fs)
  jvm_step X.here [X.here.top, hx, hb, hdg, hmeth', hr, hn]
  (try refine ⟨rfl, ?_⟩); (try refine ⟨rfl, ?_⟩)
  first | (intro acts; rw [hret _ acts rfl rfl rfl]) | rw [hret _ _ rfl rfl rfl]
  exact Steps.refl _
end
set_option maxHeartbeats 2000000 in
set_option maxRecDepth 20000 in
theorem k_F_charAt2 {l : Launch} {G : hz_G} {κ : zK} {μ : zM} {ω : Nat → Int64} {D : hz_H} {n : Nat} {x : Int32} (hw : (κ.1 6).toInt ≤ 60) : hz_M lw_tbl zAO zCl zKT l y_F_charAt c_F_charAt 2 (some .char) (zR 1) G [.ref 0, .int x] (zH κ μ ω D) n (fun r h' n' => r = some (.int (if x.toInt < 0 ∨ (κ.1 6).toInt ≤ x.toInt then hz_n 32 else hz_ch (κ.2.1 13 x.toInt.toNat))) ∧ h' = zH (κ) μ ω D ∧ n' = n) := by
  refine hz_body (by decide) (by simp [Value.category]) (by simp) ?_
  intro p e s m args below meth c B
  refine hz_go B (ft_F B rfl) (cn_F B rfl) 200 [] ?_
  show q_F_charAt _ 200 0 [some (.ref 0), some (.int x)] [] _
  simp only [↓e_F_charAt_0, ↓e_F_charAt_1, ↓e_F_charAt_4, ↓e_F_charAt_5, ↓e_F_charAt_5n, ↓e_F_charAt_6, ↓e_F_charAt_9, ↓e_F_charAt_12, ↓e_F_charAt_15, ↓e_F_charAt_15n, ↓e_F_charAt_16, ↓e_F_charAt_19, ↓e_F_charAt_22, ↓e_F_charAt_23, ↓e_F_charAt_24, ↓e_F_charAt_27, ↓e_F_charAt_29, ↓rd_0_0, ↓rd_0_1, ↓wr_0_1, ↓rd_0_2, ↓rd_0_3, ↓rd_2_0, ↓rd_2_1, ↓rd_2_2, ↓rd_2_3, ↓rd_2_4, ↓rd_2_5, ↓rd_2_6, ↓rd_2_7, ↓rd_2_8, ↓rd_2_9, ↓wr_2_9, ↓rd_2_10, ↓wr_2_10, ↓rd_2_11, ↓wr_2_11, ↓rd_2_12, ↓wr_2_12, ↓rd_2_13, ↓wr_2_13, ↓rd_12_0, ↓rd_12_1, ↓wr_12_1, ↓rd_12_2, ↓rd_12_3, ↓wr_12_3, ↓rd_12_4, ↓wr_12_4, ↓rd_12_5, ↓wr_12_5, ↓ea_1, ↓es_1, ↓ea_3, ↓ea_4, ↓ea_5, ↓es_5, ↓ea_6, ↓es_6, ↓ea_7, ↓es_7, ↓ea_8, ↓es_8, ↓ea_9, ↓es_9, ↓ea_10, ↓es_10, ↓ea_11, ↓es_11, ↓ea_13, ↓es_13, ↓ea_14, ↓es_14]
  try simp only [hz_t_m100, hz_t_m30, hz_t_m20, hz_t_m5, hz_t_m4, hz_t_m3, hz_t_m2, hz_t_m1, hz_t_0, hz_t_1, hz_t_2, hz_t_3, hz_t_4, hz_t_5, hz_t_6, hz_t_7, hz_t_8, hz_t_9, hz_t_10, hz_t_15, hz_t_26, hz_t_27, hz_t_32, hz_t_36, hz_t_40, hz_t_41, hz_t_42, hz_t_43, hz_t_44, hz_t_45, hz_t_46, hz_t_47, hz_t_48, hz_t_50, hz_t_57, hz_t_58, hz_t_60, hz_t_61, hz_t_63, hz_t_65, hz_t_90, hz_t_91, hz_t_92, hz_t_93, hz_t_97, hz_t_104, hz_t_108, hz_t_120, hz_t_122, hz_t_126, hz_t_950, hz_t_1000, hz_t_1040, hz_t_1080, hz_t_2000, hz_t_2001, hz_t_2150, hz_t_2600, hz_t_4096, kS_1, kA_1, kQ_1, mS_1, mA_1, kS_2, kQ_21, mS_2, upd_ap, mA_2, kA_21, kA_22, kQ_22, Nat.reduceEqDiff, Int.reduceToNat, ↓reduceIte, Classical.not_not, and_self, and_true, true_and, eq_self, not_true_eq_false, not_false_eq_true, false_implies, true_implies, implies_true, z_ite0]
  repeat' (first | with_reducible refine And.intro ?_ ?_ | with_reducible intro _)
  all_goals first
    | omega
    | (refine zat 29 rfl ?_; exact hz_iretn (v' := hz_n 32) B (by decide) ⟨by rw [if_pos (by omega)], rfl, rfl⟩ (Nat.le_refl _) (Nat.le_refl _) d_F_charAt_29)
    | (refine zat 29 rfl ?_; exact hz_iretn B (z_nch _) ⟨by rw [if_neg (by omega)], rfl, rfl⟩ (Nat.le_refl _) (Nat.le_refl _) d_F_charAt_29)
