/-! THE CLAIM OUT OF ONE WALK OF THE LAW'S BODY. Your part is whole_start (and what it stands on); all else here is the same for every law, but numbers. -/
def R_law : String := "LazyGraphsLaw"
def lw_P (b : Addr) (xs : List Int32) (args : Array Value) (s : State) : Prop := args = #[.ref b] ∧ s.IntsAt b xs ∧ xs.length ≤ 1536 ∧ (Jvm.Cond.and given_1 narrow_1).before args s = true
def lw_Q (_ : Array Value) (s : State) (o : Outcome) (t : State) : Prop := o = .returned (some (.int 1)) ∧ Framed s o t [] 601024 7293034
def lw_Z (below : List Frame) (a : Array Value) (s : State) : State → Prop := fun t => ∃ o, t.status = .running ∧ Ended t below o ∧ lw_Q a s o t
/-- the law's own end, with 1 on the stack, nothing written that was there before, its room as the claim has it -/
theorem lw_ret {p : Program} {l : Launch} {e : Env} {s : State} {m : MethodId} {below : List Frame} {meth : Method} {c : Code} {b : Nat} (hx : p.tables.exec = Jvm.exec) (hb : c.code = code) (hr : meth.sig.returnType = ret) (hlocks : meth.locks = false) {pc : Nat} {H : Heap} {ls : Array Slot} (hdg : decode code pc = .ok (.ireturn, 1)) : W p l e room_1 s m #[Value.ref b] below meth c H [] 601024 7293034 (lw_Z below #[Value.ref b] s) (F0 m pc ls [.int 1]) := by
  intro T hT X
  obtain ⟨fs, hret, hrun, hended, hW, hframe⟩ := X.leave (v := some (.int 1)) (hlocks := hlocks) (fun h => by rw [hr] at h; cases h)
  have hmeth' : T.vm.method? m = some meth := X.method'
  refine ⟨T.setFrames fs, ?_, .returned (some (.int 1)), hrun, hended, rfl, ⟨_, rfl⟩, hW, hframe⟩
  jvm_step X.here [X.here.top, hx, hb, hdg, hmeth', hr, ret, narrow_b1]
  (try refine ⟨rfl, ?_⟩); (try refine ⟨rfl, ?_⟩)
  first | (intro acts; rw [hret _ acts rfl rfl rfl]) | rw [hret _ _ rfl rfl rfl]
  exact Steps.refl _
/-- what holds at the law's entry: the machine, the code, the tables' words (any of lw_tbl by 'hts w (by decide +kernel)'), the script of L ints xs at the cell b, what the Statement gives of the start (any of its parts by flat_of_before) -/
def lw_At (p : Program) (s : State) (m : MethodId) (meth : Method) (c : Code) (b L : Nat) (xs : Nat → Int32) : Prop :=
  p.tables.exec = Jvm.exec ∧ c.code = code ∧ meth.sig.returnType = ret ∧ c.maxLocals = 7 ∧ s.vm.findClass R_law = some m.cls ∧ (∀ w ∈ lw_tbl, w.before #[Value.ref b] s = true) ∧ va_X b L xs s s.heap ∧ b < s.heap.size ∧ meth.locks = false ∧ (Jvm.Cond.and given_1 narrow_1).before #[Value.ref b] s = true
theorem hz_R.sub {cl : List vw_C} {G : hz_G} {h h2 : hz_H} {n : Nat} {H : Heap} (hR : hz_R cl G h n H) (hs : ∀ i x, h2 i = some x → h i = some x) : hz_R cl G h2 n H :=
  ⟨hR.1, hR.2.1, fun i x hx => hR.2.2 i x (hs i x hx)⟩
section
variable {p : Program} {l : Launch} {e : Env} {s : State} {m : MethodId} {below : List Frame} {meth : Method} {c : Code} {G : hz_G} {y : MethodName} {b L k : Nat} {xs : Nat → Int32} {κ : zK} {μ : zM} {ω : Nat → Int64} {D : hz_H} {E : Nat → Option zT} {n : Nat} {H : Heap} {locs : List Loc} {ls : Array Slot} {cells slots : Nat}
/-- one turn of the loop -/
theorem law_turn {args : Array Value} {Q : State → Prop} (F : zLF p l s m args meth c G y b L xs) (hk : 3 * k + 3 ≤ L) (hnx : zNext p l e s m args below meth c Q G b k) (I : zWI G κ μ ω D E n H locs) (hls : zLs G b ls k) (hc : cells ≤ 100 + 10 * k) (hs : slots ≤ 40000 + 200 * k) : W p l e room_1 s m args below meth c H locs cells slots Q (F0 m 32 ls []) := by
  have F' := F
  obtain ⟨B, hy, hYB, hl9, hX, hbl, hG, hL⟩ := F'
  obtain ⟨hx, hb, -⟩ := id B
  have I' := I
  obtain ⟨J, hE, hn, hD, hR, hl⟩ := I'
  have hS := wz_S hR hl
  rw [hG] at hS
  have z1 : (hz_n (3 * k : Nat)).toInt = (3 * k : Nat) := zt _ (by omega)
  have hin : vp_in (hz_n (3 * k : Nat)) L := hz_in ⟨by rw [z1]; omega, by rw [z1, Int.toNat_natCast]; omega⟩
  have hA : ¬ (fun q => s.heap.size ≤ q) b := by show ¬ s.heap.size ≤ b; omega
  refine lv_aload_n hx hb d_law_32 rfl (lv_at hls 0 rfl) ?_
  refine lv_iload hx hb d_law_33 (lv_at hls 4 rfl) ?_
  refine va_sld (A := fun q => s.heap.size ≤ q) hx hb hX hbl hA hS hin d_law_35 ?_
  refine lv_bipush (v := hz_n 15) hx hb d_law_36 (by decide) ?_
  refine lv_iand hx hb d_law_38 ?_
  generalize (xs (hz_n (3 * k : Nat)).toNatClampNeg &&& hz_n 15) = v
  by_cases hv : v.toInt < 0 ∨ 8 < v.toInt
  · refine lv_tableOut hx hb d_law_39 (tgt := 372) hv rfl ?_
    exact hnx _ _ _ _ _ _ _ _ _ _ _ I hls (by omega) (by omega)
  · have hv' : v.toInt = 0 ∨ v.toInt = 1 ∨ v.toInt = 2 ∨ v.toInt = 3 ∨ v.toInt = 4 ∨ v.toInt = 5 ∨ v.toInt = 6 ∨ v.toInt = 7 ∨ v.toInt = 8 := by omega
    rcases hv' with hq | hq | hq | hq | hq | hq | hq | hq | hq
    · refine lv_tableIn hx hb d_law_39 (off := 49) (tgt := 88) (by omega) (by omega) (by rw [hq]; rfl) rfl ?_
      exact law_type F hk hnx I hls hc hs
    · refine lv_tableIn hx hb d_law_39 (off := 76) (tgt := 115) (by omega) (by omega) (by rw [hq]; rfl) rfl ?_
      exact law_wipe F hk hnx I hls hc hs
    · refine lv_tableIn hx hb d_law_39 (off := 89) (tgt := 128) (by omega) (by omega) (by rw [hq]; rfl) rfl ?_
      exact law_define F hk hnx I hls hc hs
    · refine lv_tableIn hx hb d_law_39 (off := 147) (tgt := 186) (by omega) (by omega) (by rw [hq]; rfl) rfl ?_
      exact law_forget F hk hnx I hls hc hs
    · refine lv_tableIn hx hb d_law_39 (off := 185) (tgt := 224) (by omega) (by omega) (by rw [hq]; rfl) rfl ?_
      exact law_param F hk hnx I hls hc hs
    · refine lv_tableIn hx hb d_law_39 (off := 212) (tgt := 251) (by omega) (by omega) (by rw [hq]; rfl) rfl ?_
      exact law_run F hk hnx I hls hc hs
    · refine lv_tableIn hx hb d_law_39 (off := 282) (tgt := 321) (by omega) (by omega) (by rw [hq]; rfl) rfl ?_
      exact law_entries F hk hnx I hls hc hs
    · refine lv_tableIn hx hb d_law_39 (off := 295) (tgt := 334) (by omega) (by omega) (by rw [hq]; rfl) rfl ?_
      exact law_length F hk hnx I hls hc hs
    · refine lv_tableIn hx hb d_law_39 (off := 308) (tgt := 347) (by omega) (by omega) (by rw [hq]; rfl) rfl ?_
      exact law_char F hk hnx I hls hc hs
theorem law_head (F : zLF p l s m #[Value.ref b] meth c G y b L xs) (I : zWI G κ μ ω D E n H locs) (hls : zLs G b ls k) (hkL : 3 * k ≤ L + 3) (hc : cells ≤ 100 + 10 * k) (hs : slots ≤ 40000 + 200 * k)
    (kk : 3 * k + 3 ≤ L → W p l e room_1 s m #[Value.ref b] below meth c H locs cells slots (lw_Z below #[Value.ref b] s) (F0 m 32 ls [])) : W p l e room_1 s m #[Value.ref b] below meth c H locs cells slots (lw_Z below #[Value.ref b] s) (F0 m 23 ls []) := by
  obtain ⟨B, hy, hYB, hl9, hX, hbl, hG, hL⟩ := F
  obtain ⟨hx, hb, b3, hr, hlocks, -⟩ := id B
  obtain ⟨J, hE, hn, hD, hR, hl⟩ := I
  have hS := wz_S hR hl
  rw [hG] at hS
  have hA : ¬ (fun q => s.heap.size ≤ q) b := by show ¬ s.heap.size ≤ b; omega
  refine lv_iload hx hb d_law_23 (lv_at hls 4 rfl) ?_
  refine lv_aload_n hx hb d_law_25 rfl (lv_at hls 0 rfl) ?_
  refine va_slen (A := fun q => s.heap.size ≤ q) hx hb hX hbl hA hS d_law_26 ?_
  refine lv_iconst (v := hz_n 3) hx hb d_law_27 rfl ?_
  refine lv_isub hx hb d_law_28 ?_
  rw [hz_n_nat, zn_sub]
  have z1 : (hz_n (3 * k : Nat)).toInt = (3 * k : Nat) := zt _ (by omega)
  have z2 : (hz_n ((L : Int) - 3)).toInt = (L : Int) - 3 := zn_ti (by omega)
  refine lv_icmp_gt hx hb d_law_29 (tgt := 378) rfl (fun _ => ?_) (fun hlt => ?_)
  · refine lv_iconst (v := 1) hx hb d_law_378 rfl ?_
    refine va_forget (fun q hq => by rw [← hG]; exact hl q hq) ?_
    refine W.widen (k := 601024) (n := 7293034) (by omega) (by omega) ?_
    exact lw_ret hx hb hr hlocks d_law_379
  · rw [Int32.lt_iff_toInt_lt, z1, z2] at hlt
    exact kk (by omega)
theorem law_loop (F : zLF p l s m #[Value.ref b] meth c G y b L xs) : ∀ (r k : Nat), L < 3 * (k + r) → ∀ (κ : zK) (μ : zM) (ω : Nat → Int64) (D : hz_H) (E : Nat → Option zT) (n : Nat) (H : Heap) (locs : List Loc) (ls : Array Slot) (cells slots : Nat), zWI G κ μ ω D E n H locs → zLs G b ls k → 3 * k ≤ L + 3 → cells ≤ 100 + 10 * k → slots ≤ 40000 + 200 * k →
    W p l e room_1 s m #[Value.ref b] below meth c H locs cells slots (lw_Z below #[Value.ref b] s) (F0 m 23 ls []) := by
  intro r
  induction r with
  | zero =>
    intro k hr κ μ ω D E n H locs ls cells slots I hls hkL hc hs
    exact law_head F I hls hkL hc hs (fun h => by omega)
  | succ r ih =>
    intro k hr κ μ ω D E n H locs ls cells slots I hls hkL hc hs
    refine law_head F I hls hkL hc hs (fun h => ?_)
    refine law_turn F h (fun κ μ ω D E n H locs ls cells slots I hls hc hs => ?_) I hls hc hs
    obtain ⟨B, hy, hYB, hl9, hX, hbl, hG, hL⟩ := F
    obtain ⟨hx, hb, -⟩ := id B
    refine lv_iinc (k := 4) (v := hz_n (3 * (k + 1) : Nat)) hx hb d_law_372 hls rfl ?_ (by omega) rfl fun ls' hls' => ?_
    · show hz_n (3 * k : Nat) + hz_n 3 = _
      rw [zn_add]
      congr 1
    · refine lv_goto hx hb d_law_375 (tgt := 23) rfl ?_
      exact ih (k + 1) (by omega) κ μ ω D E n H locs ls' cells slots I (lv_sub hls' [1, 2, 3, 4, 0] rfl) (by omega) hc hs
end
