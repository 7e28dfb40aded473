-- a function's letter, its promises
theorem bFn_of {S : zG} {dfs : Nat → Option Nat} {s : zD} {w v : Int32} (H : bFnr S dfs s w v) : ∃ (l h j0 : Nat) (B : Nat → Nat), l < 26 ∧ h < s_pc S l ∧ dfs l ≠ none ∧ bCB s l j0 h w B ∧ (h = 0 → v = hz_n (-1 - (l : Int))) ∧ (0 < h → v = hz_n j0 ∧ j0 + 2 + h ≤ dnc s ∧ (dm s).2 33 j0 = hz_n l ∧ (dm s).2 33 (j0 + 1) = hz_n h) := by
  obtain ⟨l, h, a1, a2, a3, H⟩ := H
  rcases H with ⟨b1, b2, b3⟩ | ⟨b0, j, b1, b2, b3, b4, b5⟩
  · subst b1
    exact ⟨l, 0, 0, fun _ => 0, a1, a2, a3, ⟨fun k hk => by omega, fun h => by omega, fun _ => b3, fun k hk => by omega, fun h => by omega⟩, fun _ => b2, fun h => by omega⟩
  · obtain ⟨B, hB⟩ := bCB_of b5
    exact ⟨l, h, j, B, a1, a2, a3, hB, fun h => by omega, fun _ => ⟨b1, b2, b3, b4⟩⟩
theorem g_takeT {E : Nat → Option zT} {dfs : Nat → Option Nat} {ST : Nat → Nat → Int32} {F l0 am : Nat} {S : zG} {s : zD} {i p u l h j0 t : Nat} {w : Int32} {B : Nat → Nat} (st : bSta E dfs ST F S) (I : bInv S dfs ST l0 am s) (hi : i < de s) (hcl : s_cl S (dl s i) p = 1) (o : s_op S (dl s i) p = 6) (hu : u < s_mo S (dl s i) p)
    (h10 : (dk s).2.1 10 (40 * i + p) = hz_n (40 * i + s_arg S (dl s i) p u : Nat)) (hl : l < 26) (hh : h < s_pc S l) (hdf : dfs l ≠ none) (cb : bCB s l j0 h w B) (ht : t = min (s_pc S l - h) (s_mo S (dl s i) p - u)) (hpc : s_pc S l ≤ 4) :
    g_takeArguments (dk s) E (hz_n (40 * i + p : Nat)) w = g_ta2 E (kT (dk s) (40 * i + p) w (fun j => 40 * i + s_arg S (dl s i) p (u + j)) t) (hz_n (40 * i + p : Nat)) (hz_n l) (hz_n (s_pc S l - h - t : Nat)) (hz_n (40 * i + s_arg S (dl s i) p (u + t) : Nat)) := by
  obtain ⟨sh, hp, hi50, h6⟩ := zsg st I hi hcl
  obtain ⟨_, k0, _, mo1, mo4, args, nx0⟩ := bSh6 sh o
  obtain ⟨b1, b2, b3, b4, b5⟩ := cb
  have hau : s_cl S (dl s i) (s_arg S (dl s i) p u) = 1 := by
    cases u with
    | zero => exact k0.1
    | succ u => exact (args u (by omega)).1.1
  have lt1 := (args u hu).2.1
  have enx : s_arg S (dl s i) p (u + 1) = s_nx S (dl s i) (s_arg S (dl s i) p u) := rfl
  unfold g_takeArguments
  have e1 : g_letterOf (dk s) w = some (hz_n l) := by
    unfold g_letterOf
    exact g_loT (s := s) (h := h) (B := B) hl (fun _ _ => rfl) h 0 6 (Nat.le_refl _) (fun k hk => (b1 k hk).1) b2 b3 b4 b5 (by omega) (by omega)
  have e2 : g_promiseCount (dk s) w = some (hz_n h) := by
    unfold g_promiseCount
    have := g_pcT (s := s) (h := h) (B := B) (κ := dk s) (w := w) hl (fun _ _ => rfl) h 0 6 (Nat.le_refl _) (fun k hk => (b1 k hk).1) b2 b3 b4 b5 (by omega) (by omega)
    rw [Nat.zero_add] at this; exact this
  rw [e1, Option.bind_some, g_pcn st I.1.2 hl, if_neg hdf, Option.bind_some, e2, Option.bind_some, zt (40 * i + p) (by omega), zgd_t (by omega), Int.toNat_natCast, h10, g_next_s (i := i) (p := s_arg S (dl s i) p u) st I rfl hi hau (by omega), Option.bind_some, zn_sub]
  have e3 : (s_pc S l : Int) - (h : Int) = ((s_pc S l - h : Nat) : Int) := by omega
  have := g_ta1T (b := hz_n l) (w := w) (κ := dk s) (u := u) st I rfl hi hcl o t 0 50 (s_pc S l - h) (by omega) (by omega) (by omega) (by omega) (by omega)
  rw [if_pos rfl, if_pos (by omega), Nat.zero_add, if_neg (by omega)] at this
  rw [e3]
  exact this
-- not enough: a larger function
theorem bFeedX {E : Nat → Option zT} {dfs : Nat → Option Nat} {ST : Nat → Nat → Int32} {F l0 am f0 g wn wr : Nat} {S : zG} {kw : zK} {mw : zM} {s : zD} {r : List Nat} {f1 f2 i p u l h j0 : Nat} {w v : Int32} {B : Nat → Nat} {a : Int}
    (hF : 951 ≤ F) (st : bSta E dfs ST F S) (I : bInv S dfs ST l0 am s) (K : bStk S s ((40 * i + p) :: r)) (fx : bFix kw mw f0 (dk s) (dm s)) (h5 : (dk s).1 5 = hz_n 0) (hg : ((40 * i + p) :: r).getLast? = some g) (fr : bFr S l0 f0 s r (40 * i + p) f1) (kf : bKF S s (40 * i + p) f1 f2) (hf2 : f2 + 1 < 2150) (hn : dnp s < 995) (hnc : dnc s + 5 ≤ 2600)
    (hi : i < de s) (hcl : s_cl S (dl s i) p = 1) (o : s_op S (dl s i) p = 6) (hu : u < s_mo S (dl s i) p) (h21 : (dm s).1 21 = hz_n 0) (r18 : (dm s).1 18 = hz_n (f2 + 1 : Nat)) (r22 : (dm s).1 22 = hz_n (-1)) (r24 : (dm s).1 24 = hz_n 3) (r25 : (dm s).1 25 = v)
    (h10 : (dk s).2.1 10 (40 * i + p) = hz_n (40 * i + s_arg S (dl s i) p u : Nat)) (hgn : ∀ j, u < j → j ≤ s_mo S (dl s i) p → dg s (40 * i + s_arg S (dl s i) p j) = none) (env : bEnv S s i (dl s i) p a)
    (hgo : m_goOn (dm s) F = m_feed (mPop (dm s) f2) F (hz_n (40 * dl s i + s_nd S (dl s i) p : Nat)) (hz_n u) (hz_n a))
    (hl : l < 26) (hh : h < s_pc S l) (hdf : dfs l ≠ none) (cb : bCB s l j0 h w B) (hv0 : h = 0 → v = hz_n (-1 - (l : Int))) (hv1 : 0 < h → v = hz_n j0 ∧ j0 + 2 + h ≤ dnc s ∧ (dm s).2 33 j0 = hz_n l ∧ (dm s).2 33 (j0 + 1) = hz_n h) (hx : s_mo S (dl s i) p - u < s_pc S l - h)
    (cnt : bCnt S s wn wr 0 (phi h) 0 0) :
    ∃ κ', g_takeArguments (dk s) E (hz_n (40 * i + p : Nat)) w = some κ' ∧ bOutc S dfs ST F l0 am f0 g wn wr kw mw (ghs s) κ' (dm s) := by
  obtain ⟨sh, hp, hi50, h6⟩ := zsg st I hi hcl
  obtain ⟨_, k0, _, mo1, mo4, args, nx0⟩ := bSh6 sh o
  obtain ⟨TT, DD⟩ := bDefs_of st I i hi
  have hN := DD.2.2.2.2.2.2.2.2.2.2.2.2.2 p hcl
  have hl' := (I.2.2.1 i hi).1
  obtain ⟨DTT, hpc4, h19⟩ : (∃ T, bDef ST F S T l) ∧ s_pc S l ≤ 4 ∧ ST 19 l = hz_n (s_pc S l) := by
    rcases st l hl with ⟨h, _⟩ | ⟨d, T, _, _, _, D⟩
    · exact absurd h hdf
    · exact ⟨⟨T, D⟩, D.2.2.1, D.2.2.2.2.2.1⟩
  obtain ⟨j1, j2, j3, j4, j5, j6, j7, j8, j9, j10, j11, j12, j13, j14⟩ := id I.2.1
  generalize ht : s_mo S (dl s i) p - u = t at *
  have hut : u + t = s_mo S (dl s i) p := by omega
  have ht1 : 1 ≤ t := by omega
  obtain ⟨cb1, cb2, cb3, cb4, cb5⟩ := id cb
  -- the class
  have hcls : g_takeArguments (dk s) E (hz_n (40 * i + p : Nat)) w = some (kKeep (kT (dk s) (40 * i + p) w (fun j => 40 * i + s_arg S (dl s i) p (u + j)) t) (40 * i + p) r.length (hz_n 5) (hz_n (40 * i + s_arg S (dl s i) p (u + t) : Nat))) := by
    rw [g_takeT (t := t) st I hi hcl o hu h10 hl hh hdf cb (by omega) hpc4]
    unfold g_ta2
    rw [zt (s_pc S l - h - t) (by omega), if_pos (by omega)]
    exact q_keep (by omega) (by rw [(kT_s t).1]; exact K.1)
  refine ⟨_, hcls, ?_⟩
  -- the reference, up to the loops
  have e23 : (mPop (dm s) f2).2 23 (40 * dl s i + s_nd S (dl s i) p) = hz_n (s_mo S (dl s i) p) := by
    have : (mPop (dm s) f2).2 23 = ST 23 := I.1.1 23 (by decide) (by decide)
    rw [this]; exact hN.2.2.2.2.2.2.2.2.2.2.1 (Or.inl o)
  have e19 : (mPop (dm s) f2).2 19 l = hz_n (s_pc S l) := by
    have : (mPop (dm s) f2).2 19 = ST 19 := I.1.1 19 (by decide) (by decide)
    rw [this]; exact h19
  have p24 : (mPop (dm s) f2).1 24 = hz_n 3 := r24
  have p25 : (mPop (dm s) f2).1 25 = v := r25
  have p16 : (mPop (dm s) f2).1 16 = hz_n (dnc s) := j10
  generalize hμa : mA (mA (mS (mPop (dm s) f2) 16 (hz_n (dnc s + 2 + h + t : Nat))) 33 (dnc s) (hz_n l)) 33 (dnc s + 1) (hz_n (h + t : Nat)) = μa
  have hfb : ∀ x, m_feedB (mPop (dm s) f2) F (hz_n (40 * dl s i + s_nd S (dl s i) p : Nat)) (hz_n u) (hz_n a) x (hz_n l) (hz_n h) = m_extend (mPop (dm s) f2) F x (hz_n (40 * dl s i + s_nd S (dl s i) p : Nat)) (hz_n u) (hz_n a) := by
    intro x
    unfold m_feedB
    rw [zt l (by omega), zgd_t (by omega), Int.toNat_natCast, e19, zt _ (by omega), Int.toNat_natCast, e23, zn_sub, zn_sub, zn_ti (by omega), zn_ti (by omega), if_neg (by omega)]
  have hea : ∀ x, m_extA (mPop (dm s) f2) F x (hz_n (40 * dl s i + s_nd S (dl s i) p : Nat)) (hz_n u) (hz_n a) (hz_n l) (hz_n h) = m_ext1 F x (hz_n (40 * dl s i + s_nd S (dl s i) p : Nat)) (hz_n u) (hz_n a) (hz_n h) (hz_n (dnc s)) F μa (hz_n (0 : Nat)) := by
    intro x
    unfold m_extA
    have x1 : hz_n (dnc s : Int) + hz_n 2 + hz_n (h : Int) + hz_n (s_mo S (dl s i) p : Int) - hz_n (u : Int) = hz_n ((dnc s + 2 + h + t : Nat) : Int) := by rw [zn_add, zn_add, zn_add, zn_sub]; congr 1; omega
    have x2 : hz_n (h : Int) + hz_n (s_mo S (dl s i) p : Int) - hz_n (u : Int) = hz_n ((h + t : Nat) : Int) := by rw [zn_add, zn_sub]; congr 1; omega
    rw [zt _ (by omega), zgd_t (by omega), p16, zt (dnc s) (by omega), zgd_t (by omega), zn1, zt (dnc s + 1) (by omega), zgd_t (by omega), Int.toNat_natCast, Int.toNat_natCast, Int.toNat_natCast, e23, x1, x2, hμa]
    rfl
  have hfeed : m_goOn (dm s) F = m_ext1 F v (hz_n (40 * dl s i + s_nd S (dl s i) p : Nat)) (hz_n u) (hz_n a) (hz_n h) (hz_n (dnc s)) F μa (hz_n (0 : Nat)) := by
    rw [hgo]
    unfold m_feed
    have t3 : (hz_n 3).toInt = 3 := zn_ti (by omega)
    have tu : (hz_n (u : Int)).toInt = u := zt u (by omega)
    rw [zt _ (by omega), zgd_t (by omega), Int.toNat_natCast, e23, tu, zt (s_mo S (dl s i) p) (by omega), if_neg (by omega), p24, t3, if_pos rfl, p25]
    by_cases h0 : h = 0
    · subst h0
      have ev := hv0 rfl
      have ev2 : hz_n (-1) - v = hz_n l := by rw [ev, zn_sub]; congr 1; omega
      have ev3 : v.toInt < 0 := by rw [ev, zn_ti (by omega)]; omega
      have z0 : hz_n 0 = hz_n ((0 : Nat) : Int) := rfl
      rw [if_pos ev3, ev2, z0, hfb v]
      unfold m_extend
      rw [if_pos ev3, ev2, z0, hea v]
    · obtain ⟨ev, hj, e1, e2⟩ := hv1 (by omega)
      have ev3 : v.toInt = j0 := by rw [ev]; exact zt _ (by omega)
      have ev4 : (v + hz_n 1).toInt = (j0 + 1 : Nat) := by rw [ev, zn1]; exact zt _ (by omega)
      have e1' : (mPop (dm s) f2).2 33 j0 = hz_n l := e1
      have e2' : (mPop (dm s) f2).2 33 (j0 + 1) = hz_n h := e2
      rw [ev3, if_neg (by omega), zgd_t (by omega), ev4, zgd_t (by omega), Int.toNat_natCast, Int.toNat_natCast, e1', e2', hfb v]
      unfold m_extend
      rw [ev3, if_neg (by omega), zgd_t (by omega), ev4, zgd_t (by omega), Int.toNat_natCast, Int.toNat_natCast, e1', e2', hea v]
  -- the loops
  have ag0 : bAg s μa := by
    rw [← hμa]
    refine ⟨⟨rfl, rfl, rfl, rfl⟩, fun b b1 b2 b3 => ?_, fun j hj => ?_⟩
    · rw [mA2n _ _ _ _ _ b3, mA2n _ _ _ _ _ b3]; rfl
    · rw [mA2, if_pos rfl, if_neg (by omega), mA2, if_pos rfl, if_neg (by omega)]; rfl
  -- the codes of the promises that it has
  obtain ⟨M, hM⟩ : ∃ M : Nat → Int, ∀ k, k < h → dg s (B k) = some (M k) ∧ (dm s).2 33 (j0 + 2 + k) = hz_n (M k) := by
    refine ⟨fun k => (dg s (B k)).getD 0, fun k hk => ?_⟩
    obtain ⟨_, a', e1, e2⟩ := cb1 k hk
    show dg s (B k) = some ((dg s (B k)).getD 0) ∧ (dm s).2 33 (j0 + 2 + k) = hz_n ((dg s (B k)).getD 0)
    rw [e1]; exact ⟨rfl, e2⟩
  obtain ⟨μb, x1, x2, x3, x4, x5⟩ := m_ext1T (F := F) (h := h) (j0 := j0) (nc := dnc s) (x := v) (y := hz_n (40 * dl s i + s_nd S (dl s i) p : Nat)) (z := hz_n u) (w := hz_n a) (M := M) (fun h0 => ⟨(hv1 h0).1, (hv1 h0).2.1⟩) (by omega) (by omega) h 0 F μa (by omega) (by omega) (by
    intro k' hk'
    rw [ag0.2.2 _ (by have := (hv1 (by omega)).2.1; omega)]; exact (hM k' hk').2) (fun k' hk' => by omega)
  have agb : bAg s μb := by
    refine ⟨?_, fun b b1 b2 b3 => ?_, fun j hj => ?_⟩
    · rw [x2]; exact ag0.1
    · rw [x3 b b3]; exact ag0.2.1 b b1 b2 b3
    · rw [x4 j (by omega)]; exact ag0.2.2 j hj
  obtain ⟨s', μc, M', y1, I3, K3, fr3, kf3, ag3, re3, re3', gr3, ⟨gd3, gl3, ge3, gc3, gb3, gp3⟩, h333, h333', dk3, dg3, hM3, cn3, f373, f383⟩ := m_ext2T (u := u) (h := h) (t := t) (nc := dnc s) (a := a) (w := w) (κ0 := dk s) hF st (by omega) (by omega) o hut t 0 F s μb M (by omega) (by omega) I K fr kf agb hi rfl hcl env rfl (fun k' hk' => x5 k' (by omega)) rfl (fun j hj => by omega) (fun j _ hju => hgn (u + (j + 1)) (by omega) (by omega)) (by omega) cnt
  rw [Nat.add_zero] at y1
  rw [x1, y1] at hfeed
  -- the state in the end
  have c33 : μc.2 33 (dnc s) = hz_n l ∧ μc.2 33 (dnc s + 1) = hz_n (h + t : Nat) := by
    rw [h333' _ (by omega), h333' _ (by omega), x4 _ (by omega), x4 _ (by omega), ← hμa]
    refine ⟨?_, ?_⟩
    · rw [mA2, if_pos rfl, if_neg (by omega), mA2, if_pos rfl, if_pos rfl]
    · rw [mA2, if_pos rfl, if_pos rfl]
  have c16 : μc.1 16 = hz_n (dnc s + 2 + h + t : Nat) := by rw [re3 16 (by decide) (by decide), x2, ← hμa]; rfl
  have cs : ∀ b, b ≠ 15 → b ≠ 16 → b ≠ 17 → b ≠ 18 → μc.1 b = (dm s).1 b := by
    intro b b1 b2 b3 b4
    rw [re3 b b1 b3, x2, ← hμa, mA1, mA1, mS1, if_neg b2]
    unfold mPop; rw [mS1, if_neg b4]
  have c18 : μc.1 18 = hz_n f2 := by rw [re3 18 (by decide) (by decide), x2, ← hμa, mA1, mA1, mS1, if_neg (by decide)]; rfl
  have cn : ∀ b, b = 16 ∨ b = 17 ∨ b = 37 ∨ b = 38 → μc.2 b = (dm s).2 b := by
    intro b hb
    rw [re3' b hb, x3 b (by omega), ← hμa, mA2n _ _ _ _ _ (by omega), mA2n _ _ _ _ _ (by omega)]; rfl
  have rm : bRm s' (m_found μc (hz_n 3) (hz_n (dnc s))) (dnc s + 2 + h + t) (dnb s') := by
    refine ⟨⟨by omega, by omega, Nat.le_refl _, by omega⟩, ⟨?_, ?_, ?_, ?_, ?_⟩, ?_, ?_, ?_, ?_⟩
    · rw [m_found1 (by decide) (by decide) (by decide)]; exact ag3.1.1
    · rw [m_found1 (by decide) (by decide) (by decide)]; exact ag3.1.2.2.1
    · rw [m_found1 (by decide) (by decide) (by decide)]; exact ag3.1.2.2.2
    · rw [m_found1 (by decide) (by decide) (by decide)]; exact c16
    · rw [m_found1 (by decide) (by decide) (by decide), ag3.1.2.1]; exact I3.2.1.2.2.2.2.2.2.2.2.2.2.1
    · intro b b1 b2; exact ag3.2.1 b b1 (by omega) (by omega)
    · intro j hj; exact ag3.2.2 j hj
    · intro k _
      rw [m_found2, ag3.2.1 34 (by decide) (by decide) (by decide), ag3.2.1 35 (by decide) (by decide) (by decide), ag3.2.1 36 (by decide) (by decide) (by decide)]; exact ⟨rfl, rfl, rfl⟩
    · intro k hk
      rw [m_found2, ag3.2.1 36 (by decide) (by decide) (by decide)]; exact I3.2.2.2.2.2.2.1 k hk
  have I4 := bGrowR st I3 rm
  have u4 := bR_up (S := S) (dfs := dfs) rm I3.2.2.2.2.2.2.1
  have K4 : bStk S (bsR s' (m_found μc (hz_n 3) (hz_n (dnc s))) (dnc s + 2 + h + t) (dnb s')) ((40 * i + p) :: r) := bStk_g (s := s') rfl rfl rfl K3
  have h37 : ∀ j, (dm (bsR s' (m_found μc (hz_n 3) (hz_n (dnc s))) (dnc s + 2 + h + t) (dnb s'))).2 37 j = (dm s').2 37 j ∧ (dm (bsR s' (m_found μc (hz_n 3) (hz_n (dnc s))) (dnc s + 2 + h + t) (dnb s'))).2 38 j = (dm s').2 38 j := by
    intro j
    show μc.2 37 j = _ ∧ μc.2 38 j = _
    rw [cn 37 (by simp), cn 38 (by simp), f373, f383]; exact ⟨rfl, rfl⟩
  have fr4 : bFr S l0 f0 (bsR s' (m_found μc (hz_n 3) (hz_n (dnc s))) (dnc s + 2 + h + t) (dnb s')) r (40 * i + p) f1 := bFr_up (b_le I3) (by omega) u4 (bDefs_of st I3) (fun l _ => rfl) (fun x _ _ => Or.inr fun _ _ _ _ _ => ⟨id, id, id, fun _ _ _ => ⟨fun _ _ => id, id⟩, fun _ _ _ => id⟩) (fun _ _ => id) (fun j _ => h37 j) fr3
  have kf4 : bKF S (bsR s' (m_found μc (hz_n 3) (hz_n (dnc s))) (dnc s + 2 + h + t) (dnb s')) (40 * i + p) f1 f2 := bKF_up u4 id (fun j _ => (h37 j).1) kf3
  have hphi : phi h + 2 + h + t ≤ phi (h + t) := by
    have : h ≤ 2 := by omega
    have : t ≤ 3 := by omega
    have hc : (h = 0 ∧ t = 1) ∨ (h = 0 ∧ t = 2) ∨ (h = 0 ∧ t = 3) ∨ (h = 1 ∧ t = 1) ∨ (h = 1 ∧ t = 2) ∨ (h = 2 ∧ t = 1) := by omega
    rcases hc with ⟨a1, a2⟩ | ⟨a1, a2⟩ | ⟨a1, a2⟩ | ⟨a1, a2⟩ | ⟨a1, a2⟩ | ⟨a1, a2⟩ <;> subst a1 <;> subst a2 <;> decide
  have cn4 : bCnt S (bsR s' (m_found μc (hz_n 3) (hz_n (dnc s))) (dnc s + 2 + h + t) (dnb s')) wn wr 0 (phi (h + t)) 0 0 := by
    have := bCnt_grow rm (phi (h + t)) (by omega) cn3
    rw [Nat.sub_self] at this; exact this
  -- the value
  have hAinj : ∀ x y, 1 ≤ x → x < y → y ≤ t → (fun j => 40 * i + s_arg S (dl s i) p (u + j)) x ≠ (fun j => 40 * i + s_arg S (dl s i) p (u + j)) y := by
    intro x y x1 x2 x3
    have := s_arg_inj args (a := u + x) (b := u + y) (by omega) (by omega) (by omega)
    show 40 * i + s_arg S (dl s i) p (u + x) ≠ 40 * i + s_arg S (dl s i) p (u + y)
    omega
  obtain ⟨t8, t8', t10, t10'⟩ := kT_8 (κ := dk s) (c := 40 * i + p) (w := w) hAinj
  have hBA : ∀ k, k < h → ∀ j, j < t → B k ≠ 40 * i + s_arg S (dl s i) p (u + (j + 1)) := by
    intro k hk j hj e
    have h1 := (hM k hk).1
    rw [e, hgn (u + (j + 1)) (by omega) (by omega)] at h1; exact absurd h1 (by simp)
  have q40 : ∀ j, j < t → 40 * i + s_arg S (dl s i) p (u + (j + 1)) < 2000 := by
    intro j hj
    have := (args (u + j) (by omega)).1
    exact (zsg st I hi this.1).2.2.2
  let B' : Nat → Nat := fun k => if k < h then B k else 40 * i + s_arg S (dl s i) p (u + (k - h + 1))
  have hB1 : ∀ k, k < h → B' k = B k := fun k hk => if_pos hk
  have hB2 : ∀ k, h ≤ k → B' k = 40 * i + s_arg S (dl s i) p (u + (k - h + 1)) := fun k hk => if_neg (by omega)
  have hdk4 : dk (bsR s' (m_found μc (hz_n 3) (hz_n (dnc s))) (dnc s + 2 + h + t) (dnb s')) = kT (dk s) (40 * i + p) w (fun j => 40 * i + s_arg S (dl s i) p (u + j)) t := dk3
  have cbn : bCB (bsR s' (m_found μc (hz_n 3) (hz_n (dnc s))) (dnc s + 2 + h + t) (dnb s')) l (dnc s) (h + t) (hz_n (40 * i + s_arg S (dl s i) p (u + t) : Nat)) B' := by
    refine ⟨fun k hk => ?_, fun _ => ?_, fun e => by omega, fun k hk => ?_, fun _ => ?_⟩
    · by_cases e : k < h
      · rw [hB1 k e]
        refine ⟨(cb1 k e).1, M k, ?_, ?_⟩
        · show dg s' (B k) = _; exact gr3.1.1 _ _ (hM k e).1
        · show μc.2 33 (dnc s + 2 + k) = _; rw [h333 k hk, hM3 k (by omega)]
      · rw [hB2 k (by omega)]
        have e2 : h + (k - h) = k := by omega
        refine ⟨q40 (k - h) (by omega), M' k, ?_, ?_⟩
        · show dg s' _ = _
          have := dg3 (k - h) (by omega)
          rw [e2] at this; exact this
        · show μc.2 33 (dnc s + 2 + k) = _; exact h333 k hk
    · rw [hB2 _ (by omega)]
      have e : h + t - 1 - h + 1 = t := by omega
      rw [e]
    · rw [hdk4]
      by_cases e : k + 1 < h
      · rw [hB1 _ e, hB1 _ (by omega), t8' _ (fun j hj => hBA _ e j hj)]; exact cb4 k e
      · rw [hB2 _ (by omega)]
        have h8 := t8 (k + 1 - h) (by omega)
        rw [h8]
        by_cases e4 : k + 1 - h = 0
        · have e5 : h - 1 = k := by omega
          rw [if_pos e4, hB1 _ (by omega), cb2 (by omega), e5]
        · rw [if_neg e4, hB2 _ (by omega)]
          have e5 : k - h + 1 = k + 1 - h := by omega
          rw [e5]
    · rw [hdk4]
      by_cases e : 0 < h
      · rw [hB1 _ e, t8' _ (fun j hj => hBA _ e j hj)]; exact cb5 e
      · have e0 : h = 0 := by omega
        rw [hB2 _ (by omega)]
        have h8 := t8 0 (by omega)
        have e3 : 0 - h + 1 = 0 + 1 := by omega
        rw [e3, h8, if_pos rfl]; exact cb3 e0
  have vr : bVR S dfs (bsR s' (m_found μc (hz_n 3) (hz_n (dnc s))) (dnc s + 2 + h + t) (dnb s')) (hz_n 5) (hz_n (40 * i + s_arg S (dl s i) p (u + t) : Nat)) (hz_n 3) (hz_n (dnc s)) := by
    refine Or.inr (Or.inr (Or.inr ⟨rfl, rfl, l, h + t, hl, by omega, hdf, Or.inr ⟨by omega, dnc s, rfl, ?_, c33.1, c33.2, bCB_to cbn⟩⟩))
    show dnc s + 2 + (h + t) ≤ dnc s + 2 + h + t; omega
  have hps : psi (m_found μc (hz_n 3) (hz_n (dnc s))) (hz_n 3) (hz_n (dnc s)) = phi (h + t) := by
    unfold psi
    rw [zn_ti (by omega), if_neg (by omega), if_pos rfl, zt (dnc s) (by omega), if_neg (by omega), Int.toNat_natCast]
    have : (m_found μc (hz_n 3) (hz_n (dnc s))).2 33 (dnc s + 1) = hz_n (h + t : Nat) := c33.2
    rw [this, zt _ (by omega), Int.toNat_natCast]
  refine bOutc_run (bRun_go h21 r22 r18 (by omega) hfeed) ?_
  rw [← hdk4]
  refine bOutc_gh (gh' := ghs (bsR s' (m_found μc (hz_n 3) (hz_n (dnc s))) (dnc s + 2 + h + t) (dnb s'))) (ghL_t (ghL_g gr3) (ghL_g u4.1)) ?_
  refine bRet (s := bsR s' (m_found μc (hz_n 3) (hz_n (dnc s))) (dnc s + 2 + h + t) (dnb s')) (k := hz_n 3) (v := hz_n (dnc s)) st I4 K4 ?_ (by rw [hdk4, (kT_s t).1]; exact h5) hg fr4 kf4 (by omega) ⟨rfl, c18, rfl, rfl, rfl⟩ ?_ vr ?_ (by show bCnt S _ wn wr 0 (psi (m_found μc (hz_n 3) (hz_n (dnc s))) _ _) 0 0; rw [hps]; exact cn4)
  · rw [hdk4]
    refine bFix_k fx ?_ ?_ ?_ ?_ ?_ (by rw [(kT_s t).2.1])
    · intro b _; rw [(kT_s t).1]
    · intro b hb; rw [(kT_s t).2.2 b (by omega) (by omega)]
    · intro b b1 b2
      show (m_found μc _ _).1 b = _
      rw [m_found1 (by omega) (by omega) (by omega), cs b (by omega) (by omega) (by omega) (by omega)]
    · intro b hb
      show μc.2 b = _
      by_cases e : b = 16 ∨ b = 17
      · exact cn b (by omega)
      · rw [ag3.2.1 b (by omega) (by omega) (by omega), I3.1.1 b (by omega) (by omega), I.1.1 b (by omega) (by omega)]
    · intro j _
      show μc.2 37 j = _ ∧ μc.2 38 j = _
      rw [cn 37 (by simp), cn 38 (by simp)]; exact ⟨rfl, rfl⟩
  · show (m_found μc _ _).1 21 = _
    rw [m_found1 (by omega) (by omega) (by omega), cs 21 (by decide) (by decide) (by decide) (by decide)]; exact h21
  · intro m i' p' a1 a2 a3 a4 a5
    exfalso
    have a2' : i' < de s := by have : i' < de s' := a2; omega
    have a3' : s_cl S (dl s i') p' = 1 := by have : s_cl S (dl s' i') p' = 1 := a3; rw [gl3] at this; exact this
    have := (zsg st I a2' a3').2.1
    have y1 : i' = i := by omega
    have y2 : p' = p := by omega
    subst y1; subst y2
    rcases ((I4.2.2.2.2.2.2.2 i' p' a2 a3).2.1 m a5).1 with ⟨ho', _⟩ | ⟨_, ho', _⟩
    · exact a4 ho'
    · have : s_op S (dl s' i') p' < 5 := ho'
      rw [gl3] at this; omega

-- enough: an entry
theorem bFeedE {E : Nat → Option zT} {dfs : Nat → Option Nat} {ST : Nat → Nat → Int32} {F l0 am f0 g wn wr : Nat} {S : zG} {kw : zK} {mw : zM} {s : zD} {r : List Nat} {f1 f2 i p u l h j0 : Nat} {w v : Int32} {B : Nat → Nat}
    (hF : 951 ≤ F) (st : bSta E dfs ST F S) (I : bInv S dfs ST l0 am s) (K : bStk S s ((40 * i + p) :: r)) (fx : bFix kw mw f0 (dk s) (dm s)) (h5 : (dk s).1 5 = hz_n 0) (hg : ((40 * i + p) :: r).getLast? = some g) (fr : bFr S l0 f0 s r (40 * i + p) f1) (kf : bKF S s (40 * i + p) f1 f2) (hf2 : f2 + 1 < 2150) (hn : dnp s < 995) (hnb : dnb s < 945)
    (hi : i < de s) (hcl : s_cl S (dl s i) p = 1) (o : s_op S (dl s i) p = 6) (hu : u < s_mo S (dl s i) p) (h21 : (dm s).1 21 = hz_n 0) (r18 : (dm s).1 18 = hz_n (f2 + 1 : Nat)) (r22 : (dm s).1 22 = hz_n (-1)) (r24 : (dm s).1 24 = hz_n 3) (r25 : (dm s).1 25 = v)
    (h10 : (dk s).2.1 10 (40 * i + p) = hz_n (40 * i + s_arg S (dl s i) p u : Nat)) (hgn : ∀ j, u < j → j ≤ s_mo S (dl s i) p → dg s (40 * i + s_arg S (dl s i) p j) = none) (env : bEnv S s i (dl s i) p (da s (40 * i + p)))
    (hgo : m_goOn (dm s) F = m_feed (mPop (dm s) f2) F (hz_n (40 * dl s i + s_nd S (dl s i) p : Nat)) (hz_n u) (hz_n (da s (40 * i + p))))
    (hl : l < 26) (hh : h < s_pc S l) (hdf : dfs l ≠ none) (cb : bCB s l j0 h w B) (hv0 : h = 0 → v = hz_n (-1 - (l : Int))) (hv1 : 0 < h → v = hz_n j0 ∧ j0 + 2 + h ≤ dnc s ∧ (dm s).2 33 j0 = hz_n l ∧ (dm s).2 33 (j0 + 1) = hz_n h) (hx : s_pc S l - h ≤ s_mo S (dl s i) p - u)
    (cnt : bCnt S s wn wr 0 12 0 0) :
    ∃ κ', g_takeArguments (dk s) E (hz_n (40 * i + p : Nat)) w = some κ' ∧ bOutc S dfs ST F l0 am f0 g wn wr kw mw (ghs s) κ' (dm s) := by
  obtain ⟨sh, hp, hi50, h6⟩ := zsg st I hi hcl
  obtain ⟨_, k0, _, mo1, mo4, args, nx0⟩ := bSh6 sh o
  obtain ⟨TT, DD⟩ := bDefs_of st I i hi
  have hN := DD.2.2.2.2.2.2.2.2.2.2.2.2.2 p hcl
  have hl' := (I.2.2.1 i hi).1
  obtain ⟨T, DT, hEd⟩ : ∃ T, bDef ST F S T l ∧ ∀ d, dfs l = some d → E d = some T := by
    rcases st l hl with ⟨h, _⟩ | ⟨d, T, e1, e2, _, D⟩
    · exact absurd h hdf
    · exact ⟨T, D, fun d' hd' => by rw [e1] at hd'; rw [← Option.some.inj hd']; exact e2⟩
  have hpc4 := DT.2.2.1
  have h19 := DT.2.2.2.2.2.1
  obtain ⟨j1, j2, j3, j4, j5, j6, j7, j8, j9, j10, j11, j12, j13, j14⟩ := id I.2.1
  have hle := b_le I
  generalize ht : s_pc S l - h = t at *
  have hht : h + t = s_pc S l := by omega
  have ht1 : 1 ≤ t := by omega
  have hge := bFr_ge fr
  have hle2 := bKF_le kf
  obtain ⟨cb1, cb2, cb3, cb4, cb5⟩ := id cb
  -- the reference, up to the loops
  have e23 : (mPop (dm s) f2).2 23 (40 * dl s i + s_nd S (dl s i) p) = hz_n (s_mo S (dl s i) p) := by
    have : (mPop (dm s) f2).2 23 = ST 23 := I.1.1 23 (by decide) (by decide)
    rw [this]; exact hN.2.2.2.2.2.2.2.2.2.2.1 (Or.inl o)
  have e19 : (mPop (dm s) f2).2 19 l = hz_n (s_pc S l) := by
    have : (mPop (dm s) f2).2 19 = ST 19 := I.1.1 19 (by decide) (by decide)
    rw [this]; exact h19
  have p24 : (mPop (dm s) f2).1 24 = hz_n 3 := r24
  have p25 : (mPop (dm s) f2).1 25 = v := r25
  have hfb : ∀ x, m_feedB (mPop (dm s) f2) F (hz_n (40 * dl s i + s_nd S (dl s i) p : Nat)) (hz_n u) (hz_n (da s (40 * i + p))) x (hz_n l) (hz_n h) = m_fd1 F (hz_n (40 * dl s i + s_nd S (dl s i) p : Nat)) (hz_n u) (hz_n (da s (40 * i + p))) x (hz_n l) (hz_n h) (hz_n t) F (mPop (dm s) f2) (hz_n (pv (dnb s) 0)) (hz_n (0 : Nat)) := by
    intro x
    unfold m_feedB
    have e1 : (s_pc S l : Int) - (h : Int) = (t : Int) := by omega
    rw [zt l (by omega), zgd_t (by omega), Int.toNat_natCast, e19, zt _ (by omega), Int.toNat_natCast, e23, zn_sub, zn_sub, e1, zn_ti (by omega), zn_ti (by omega), if_pos (by omega)]
    rfl
  have hfeed : m_goOn (dm s) F = m_fd1 F (hz_n (40 * dl s i + s_nd S (dl s i) p : Nat)) (hz_n u) (hz_n (da s (40 * i + p))) v (hz_n l) (hz_n h) (hz_n t) F (mPop (dm s) f2) (hz_n (pv (dnb s) 0)) (hz_n (0 : Nat)) := by
    rw [hgo]
    unfold m_feed
    have t3 : (hz_n 3).toInt = 3 := zn_ti (by omega)
    have tu : (hz_n (u : Int)).toInt = u := zt u (by omega)
    rw [zt _ (by omega), zgd_t (by omega), Int.toNat_natCast, e23, tu, zt (s_mo S (dl s i) p) (by omega), if_neg (by omega), p24, t3, if_pos rfl, p25]
    by_cases h0 : h = 0
    · subst h0
      have ev := hv0 rfl
      have ev2 : hz_n (-1) - v = hz_n l := by rw [ev, zn_sub]; congr 1; omega
      have ev3 : v.toInt < 0 := by rw [ev, zn_ti (by omega)]; omega
      have z0 : hz_n 0 = hz_n ((0 : Nat) : Int) := rfl
      rw [if_pos ev3, ev2, z0, hfb v]
    · obtain ⟨ev, hj, e1, e2⟩ := hv1 (by omega)
      have ev3 : v.toInt = j0 := by rw [ev]; exact zt _ (by omega)
      have ev4 : (v + hz_n 1).toInt = (j0 + 1 : Nat) := by rw [ev, zn1]; exact zt _ (by omega)
      have e1' : (mPop (dm s) f2).2 33 j0 = hz_n l := e1
      have e2' : (mPop (dm s) f2).2 33 (j0 + 1) = hz_n h := e2
      rw [ev3, if_neg (by omega), zgd_t (by omega), ev4, zgd_t (by omega), Int.toNat_natCast, Int.toNat_natCast, e1', e2', hfb v]
  -- the codes of the promises that it has
  obtain ⟨M, hM⟩ : ∃ M : Nat → Int, ∀ k, k < h → dg s (B k) = some (M k) ∧ (dm s).2 33 (j0 + 2 + k) = hz_n (M k) := by
    refine ⟨fun k => (dg s (B k)).getD 0, fun k hk => ?_⟩
    obtain ⟨_, a', e1, e2⟩ := cb1 k hk
    show dg s (B k) = some ((dg s (B k)).getD 0) ∧ (dm s).2 33 (j0 + 2 + k) = hz_n ((dg s (B k)).getD 0)
    rw [e1]; exact ⟨rfl, e2⟩
  -- the loops
  have ag0 : bAg s (mPop (dm s) f2) := ⟨⟨rfl, rfl, rfl, rfl⟩, fun _ _ _ _ => rfl, fun _ _ => rfl⟩
  obtain ⟨s1, μ1, x1, I1, K1, fr1, kf1, ag1, re1, gr1, dk1, ⟨gg1, ga1, gd1, gl1, ge1, gp1, gc1⟩, nb1, bn1, cn1, f371, f381⟩ := m_fd1T (x := hz_n (40 * dl s i + s_nd S (dl s i) p : Nat)) (y := hz_n u) (z := hz_n (da s (40 * i + p))) (c := hz_n t) (v := v) (M := M) (nb := dnb s) (j0 := j0) (nc0 := dnc s) st hl DT hh (by omega) (fun h0 => ⟨(hv1 h0).1, (hv1 h0).2.1, j13⟩) h 0 F 0 s (mPop (dm s) f2) (by omega) (by omega) I K fr kf ag0 rfl (by omega) (fun k hk => by omega) (fun k hk => (hM k hk).2) cnt
  have hb0 : dnb s ≤ 950 := by omega
  obtain ⟨s2, μ2, M', x2, I2, K2, fr2, kf2, ag2, re2, gr2, ⟨gd2, gl2, ge2, gc2, gp2⟩, nb2, bn2, dk2, dg2, dg2', hM2, da2, cn2, f372, f382⟩ := m_fd2T (i := i) (p := p) (u := u) (l := l) (h := h) (t := t) (nb := dnb s) (lc := dl s i) (a := da s (40 * i + p)) (w := w) (κ0 := dk s) hF st hl DT hht (by omega) o (by omega) t 0 F (0 + h) s1 μ1 M (by omega) (by omega) I1 K1 fr1 kf1 ag1 (by rw [ge1]; exact hi) (by rw [gl1]) hcl (bEnv_mono hb0 gr1 env) (by rw [nb1]; omega) bn1 dk1 (fun j hj => by omega) (fun j _ hju => by rw [gg1]; exact hgn (u + (j + 1)) (by omega) (by omega)) (by omega) cn1
  have z0 : hz_n ((0 : Nat) : Int) = hz_n 0 := rfl
  have hpv0 : h + 0 = h := by omega
  rw [hpv0, z0] at x2
  rw [x1, x2] at hfeed
  have gr02 := bGrow_trans gr1 gr2
  have re := bRest_trans re1 re2
  have gg2 : ∀ k, k < h → dg s2 (B k) = some (M' k) := by
    intro k hk
    rw [hM2 k (by omega)]; exact gr02.1.1 _ _ (hM k hk).1
  -- the arguments as a list
  have hAinj : ∀ x y, 1 ≤ x → x < y → y ≤ t → (fun j => 40 * i + s_arg S (dl s i) p (u + j)) x ≠ (fun j => 40 * i + s_arg S (dl s i) p (u + j)) y := by
    intro x y x1 x2 x3
    have := s_arg_inj args (a := u + x) (b := u + y) (by omega) (by omega) (by omega)
    show 40 * i + s_arg S (dl s i) p (u + x) ≠ 40 * i + s_arg S (dl s i) p (u + y)
    omega
  obtain ⟨t8, t8', t10, t10'⟩ := kT_8 (κ := dk s) (c := 40 * i + p) (w := w) hAinj
  have hBA : ∀ k, k < h → ∀ j, j < t → B k ≠ 40 * i + s_arg S (dl s i) p (u + (j + 1)) := by
    intro k hk j hj e
    have h1 := (hM k hk).1
    rw [e, hgn (u + (j + 1)) (by omega) (by omega)] at h1; exact absurd h1 (by simp)
  have q40 : ∀ j, j < t → 40 * i + s_arg S (dl s i) p (u + (j + 1)) < 2000 := by
    intro j hj
    have := (args (u + j) (by omega)).1
    exact (zsg st I hi this.1).2.2.2
  let A : Nat → Nat := fun k => if k < h then B k else 40 * i + s_arg S (dl s i) p (u + (k - h + 1))
  have hB1 : ∀ k, k < h → A k = B k := fun k hk => if_pos hk
  have hB2 : ∀ k, h ≤ k → A k = 40 * i + s_arg S (dl s i) p (u + (k - h + 1)) := fun k hk => if_neg (by omega)
  have hA2000 : ∀ k, k < s_pc S l → A k < 2000 := by
    intro k hk
    by_cases e : k < h
    · rw [hB1 k e]; exact (cb1 k e).1
    · rw [hB2 k (by omega)]; exact q40 (k - h) (by omega)
  have hAg : ∀ k, k < s_pc S l → dg s2 (A k) = some (M' k) := by
    intro k hk
    by_cases e : k < h
    · rw [hB1 k e]; exact gg2 k e
    · rw [hB2 k (by omega)]
      have := dg2 (k - h) (by omega)
      have e2 : h + (k - h) = k := by omega
      rw [e2] at this; exact this
  have hAy : hz_n (40 * i + s_arg S (dl s i) p (u + t) : Nat) = hz_n (A (s_pc S l - 1)) := by
    rw [hB2 _ (by omega)]
    have e : s_pc S l - 1 - h + 1 = t := by omega
    rw [e]
  have hAc : ∀ k, k + 1 < s_pc S l → (dk s2).2.1 8 (A (k + 1)) = hz_n (A k) := by
    intro k hk
    rw [dk2]
    by_cases e : k + 1 < h
    · rw [hB1 _ e, hB1 _ (by omega), t8' _ (fun j hj => hBA _ e j hj)]; exact cb4 k e
    · rw [hB2 _ (by omega)]
      have h8 := t8 (k + 1 - h) (by omega)
      rw [h8]
      by_cases e4 : k + 1 - h = 0
      · have e5 : h - 1 = k := by omega
        rw [if_pos e4, hB1 _ (by omega), cb2 (by omega), e5]
      · rw [if_neg e4, hB2 _ (by omega)]
        have e5 : k - h + 1 = k + 1 - h := by omega
        rw [e5]
  have hgt := g_takeT (t := t) st I hi hcl o hu h10 hl hh hdf cb (by omega) hpc4
  have e0 : s_pc S l - h - t = 0 := by omega
  rw [e0] at hgt
  unfold g_ta2 at hgt
  have tz : (hz_n ((0 : Nat) : Int)).toInt = 0 := zn_ti (by omega)
  rw [tz, if_neg (by omega), ← dk2] at hgt
  have hde2 : de s2 = de s := by rw [ge2, ge1]
  have hdl2 : dl s2 = dl s := by rw [gl2, gl1]
  -- the reference's last step
  have m23 : μ2.2 23 (40 * dl s i + s_nd S (dl s i) p) = hz_n (s_mo S (dl s i) p) := by
    rw [ag2.2.1 23 (by decide) (by decide) (by decide), I2.1.1 23 (by decide) (by decide)]; exact hN.2.2.2.2.2.2.2.2.2.2.1 (Or.inl o)
  have m18 : μ2.1 18 = hz_n f2 := by rw [re.1 18 (by decide) (by decide)]; rfl
  have m20 : μ2.1 20 = hz_n (de s) := by rw [re.1 20 (by decide) (by decide)]; exact j2
  have m19 : μ2.1 19 = hz_n am := by rw [re.1 19 (by decide) (by decide)]; exact j4
  obtain ⟨μ3, f3, hf3, g3, s3', s318, a3, fr3', frm3⟩ : ∃ (μ3 : zM) (f3 : Nat), ((u + t = s_mo S (dl s i) p ∧ f3 = f2) ∨ (u + t < s_mo S (dl s i) p ∧ f3 = f2 + 1)) ∧ m_goOn (dm s) F = some (m_enter μ3 (hz_n l) (hz_n (pv (dnb s) (h + t)))) ∧ (∀ b, b ≠ 18 → μ3.1 b = μ2.1 b) ∧ μ3.1 18 = hz_n f3
      ∧ (∀ b, b ≠ 37 → b ≠ 38 → μ3.2 b = μ2.2 b) ∧ (∀ j, j < f2 → μ3.2 37 j = μ2.2 37 j ∧ μ3.2 38 j = μ2.2 38 j) ∧ (u + t < s_mo S (dl s i) p → μ3.2 37 f2 = hz_n (4096 * 10 + (40 * dl s i + s_nd S (dl s i) p) : Nat) ∧ μ3.2 38 f2 = hz_n (8 * (da s (40 * i + p) + 1) + (u + t : Nat))) := by
    have hfd : m_goOn (dm s) F = m_fd3 μ2 (hz_n (40 * dl s i + s_nd S (dl s i) p : Nat)) (hz_n u) (hz_n (da s (40 * i + p))) (hz_n l) (hz_n t) (hz_n (pv (dnb s) (h + t))) := hfeed
    unfold m_fd3 at hfd
    rw [zt _ (by omega), zgd_t (by omega), Int.toNat_natCast, m23, zt (s_mo S (dl s i) p) (by omega), zn_add, zn_ti (by omega)] at hfd
    by_cases e : u + t = s_mo S (dl s i) p
    · rw [if_pos (by omega)] at hfd
      exact ⟨μ2, f2, Or.inl ⟨e, rfl⟩, hfd, fun _ _ => rfl, m18, fun _ _ _ => rfl, fun _ _ => ⟨rfl, rfl⟩, fun h => by omega⟩
    · have x3 : hz_n 8 * (hz_n (da s (40 * i + p)) + hz_n 1) + hz_n (u : Int) + hz_n (t : Int) = hz_n (8 * (da s (40 * i + p) + 1) + (u + t : Nat)) := by rw [zn_add, zn_mul, zn_add, zn_add]; congr 1; omega
      have e4 : m_stack μ2 (hz_n 10) (hz_n (40 * dl s i + s_nd S (dl s i) p : Nat)) (hz_n (8 * (da s (40 * i + p) + 1) + (u + t : Nat))) = mS (mA (mA μ2 37 f2 (hz_n (4096 * 10 + (40 * dl s i + s_nd S (dl s i) p) : Nat))) 38 f2 (hz_n (8 * (da s (40 * i + p) + 1) + (u + t : Nat)))) 18 (hz_n (f2 + 1 : Nat)) := m_stF (w := 10) m18 (by omega) (by omega) (by omega)
      rw [if_neg (by omega), m18, zt f2 (by omega), zgd_t (by omega), x3, e4] at hfd
      refine ⟨_, f2 + 1, Or.inr ⟨by omega, rfl⟩, hfd, ?_, rfl, ?_, ?_, ?_⟩
      · intro b hb; rw [mS1, if_neg hb]; rfl
      · intro b b1 b2; rw [mS2, mA2n _ _ _ _ _ b2, mA2n _ _ _ _ _ b1]
      · intro j hj; simp only [mS2, mA2]; simp [show ¬ j = f2 by omega]
      · intro _; simp only [mS2, mA2]; simp
  have q18 : ∀ b, b ≠ 15 → b ≠ 17 → b ≠ 18 → μ3.1 b = (dm s).1 b := by
    intro b b1 b2 b3
    rw [s3' b b3, re.1 b b1 b2]; unfold mPop; rw [mS1, if_neg b3]
  have q2 : ∀ b, 16 ≤ b ∧ b ≤ 23 → μ3.2 b = (dm s).2 b := by
    intro b hb
    rw [a3 b (by omega) (by omega)]
    by_cases e16 : b = 16
    · rw [e16]; exact re.2.1.2
    · by_cases e17 : b = 17
      · rw [e17]; exact re.2.1.1
      · rw [ag2.2.1 b (by omega) (by omega) (by omega), I2.1.1 b (by omega) (by omega), I.1.1 b (by omega) (by omega)]
  have q37 : ∀ j, j < f2 → μ3.2 37 j = (dm s).2 37 j ∧ μ3.2 38 j = (dm s).2 38 j := by
    intro j hj
    rw [(fr3' j hj).1, (fr3' j hj).2, re.2.2.2.1, re.2.2.2.2]; exact ⟨rfl, rfl⟩
  have n20 : μ3.1 20 = hz_n (de s) := by rw [s3' 20 (by decide)]; exact m20
  have n19 : μ3.1 19 = hz_n am := by rw [s3' 19 (by decide)]; exact m19
  unfold m_enter at g3
  rw [n20, n19, zt (de s) (by omega), zt am (by omega)] at g3
  by_cases hlt : de s < am
  · rw [if_neg (by omega), zn1, zn_mul] at g3
    have e40 : (40 : Int) * (l : Int) = ((40 * l : Nat) : Int) := by omega
    rw [e40] at g3
    -- the class enters
    obtain ⟨κE, g1, ek, gs⟩ := g_enterT st I2 (y := hz_n (40 * i + s_arg S (dl s i) p (u + t) : Nat)) (A := A) hl hdf DT hEd (by omega) hA2000 (fun _ => hAy) hAc
    rw [g1, Option.bind_some, zt (40 * i + p) (by omega), zgd_t (by omega), Int.toNat_natCast] at hgt
    refine ⟨_, hgt, bOutc_run (bRun_go h21 r22 r18 (by omega) g3) ?_⟩
    -- the states
    let μE : zM := mS (dm s2) 20 (hz_n (de s2 + 1 : Nat))
    obtain ⟨I3, K3, u3⟩ := bEnter (κ := κE) (μ := μE) (a := A) st I2 K2 hl hdf DT (by omega) ek rfl ⟨rfl, rfl, rfl, rfl, rfl⟩ hA2000
    have cnt2 : bCnt S s2 wn wr 0 (0 + 12) (0 + s_pc S l) 0 := by
      have e : 0 + h + t = 0 + s_pc S l := by omega
      rw [e] at cn2; exact cn2
    have cnt3 := bCnt_enter (μ := μE) (a := A) (bDefs_of st I2) I2 DT ek rfl cnt2
    rw [ind_f (show ¬ s_pc S l = 0 by omega), Nat.add_zero] at cnt3
    have cs2 : ∀ x, x ∈ (40 * i + p) :: r → x = 2000 ∨ x < 40 * de s2 := by
      intro x hx
      rcases (K2.2.2.2.1 x hx).2 with h | ⟨i', p', h1, h2, h3⟩
      · exact Or.inl h
      · have := (zsg st I2 h2 h3).2.1; exact Or.inr (by omega)
    have fr3 : bFr S l0 f0 (bsE s2 κE μE l (s_pc S l) A) r (40 * i + p) f1 := bFr_hi st I2 (e0 := de s2) u3 (by intro x h; rcases h with h | h | h | h; exact h; exact h.elim; exact h; exact h.elim) id (fun x hx => cs2 x (List.mem_cons_of_mem _ hx)) (by intro l' _; show κE.2.1 5 l' = _; rw [ek.2.1 5 (by decide) (by decide)]) (fun j _ => ⟨rfl, rfl⟩) fr2
    have kf3 : bKF S (bsE s2 κE μE l (s_pc S l) A) (40 * i + p) f1 f2 := bKF_up u3 id (fun j _ => rfl) kf2
    have hdg3 : dg (bsE s2 κE μE l (s_pc S l) A) = dg s2 := rfl
    have hdd3 : ∀ k, k < s_pc S l → dd (bsE s2 κE μE l (s_pc S l) A) (40 * de s2 + k) = some (A k) := by
      intro k hk
      show (if 40 * de s2 ≤ 40 * de s2 + k ∧ 40 * de s2 + k < 40 * de s2 + s_pc S l then some (A (40 * de s2 + k - 40 * de s2)) else dd s2 (40 * de s2 + k)) = _
      have e : 40 * de s2 + k - 40 * de s2 = k := by omega
      rw [if_pos (by omega), e]
    have hdl3 : dl (bsE s2 κE μE l (s_pc S l) A) (de s2) = l := if_pos rfl
    have hdl3' : dl (bsE s2 κE μE l (s_pc S l) A) i = dl s i := by
      show (if i = de s2 then l else dl s2 i) = _
      rw [if_neg (by omega), hdl2]
    have gr3 : bGrow s (bsE s2 κE μE l (s_pc S l) A) := bGrow_trans gr02 u3.1
    have hroot : ks (bsE s2 κE μE l (s_pc S l) A) (40 * de s2 + (s_pc S l + 1)) = hz_n 0 := ek.2.2.2.1 _ (by omega) (by have := DT.2.2.2.1; omega)
    have hrg : dg (bsE s2 κE μE l (s_pc S l) A) (40 * de s2 + (s_pc S l + 1)) = none := by
      show dg s2 _ = none
      cases hx : dg s2 (40 * de s2 + (s_pc S l + 1)) with
      | none => rfl
      | some m' =>
        obtain ⟨_, _, i', p', a1, a2, a3⟩ := I2.2.2.2.2.1 _ _ hx
        have := (zsg st I2 a2 a3).2.1
        have := DT.2.2.2.1; have := DT.2.1
        omega
    have bn3 : bBN (bsE s2 κE μE l (s_pc S l) A) (dnb s) (h + t) (s_vl S l) M' := bn2
    have hda3 : da (bsE s2 κE μE l (s_pc S l) A) (40 * i + p) = da s (40 * i + p) := by
      show da s2 _ = _
      rw [da2, ga1]
    have hde3 : de (bsE s2 κE μE l (s_pc S l) A) = de s2 + 1 := rfl
    have hnb3 : dnb (bsE s2 κE μE l (s_pc S l) A) = dnb s + (h + t) := nb2
    have hk9 : ∀ b, b ≠ 6 → b ≠ 7 → (dk (bsE s2 κE μE l (s_pc S l) A)).2.1 b = (dk s2).2.1 b := fun b b6 b7 => ek.2.1 b b6 b7
    have hdk3 : dk (bsE s2 κE μE l (s_pc S l) A) = κE := rfl
    have hm3 : ∀ b, (dm (bsE s2 κE μE l (s_pc S l) A)).2 b = (dm s2).2 b := fun _ => rfl
    have hms3 : ∀ b, b ≠ 20 → (dm (bsE s2 κE μE l (s_pc S l) A)).1 b = (dm s2).1 b := fun b hb => by
      show (mS (dm s2) 20 _).1 b = _; rw [mS1, if_neg hb]
    have hm20 : (dm (bsE s2 κE μE l (s_pc S l) A)).1 20 = hz_n (de s2 + 1 : Nat) := rfl
    generalize hs3 : bsE s2 κE μE l (s_pc S l) A = s3 at *
    -- the environment of the new entry
    have henvk : ∀ k, k ≤ s_pc S l → bEnvF (fun y => s_lp S l y k) s3 (de s2) (pv (dnb s) k) := by
      intro k
      induction k with
      | zero =>
        intro _
        refine ⟨by unfold pv; simp, by unfold pv; simp; omega, fun y b hy => ?_⟩
        exact absurd hy (by simp [s_lp])
      | succ k ih =>
        intro hk
        have ih' := ih (by omega)
        obtain ⟨n1, n2, n3⟩ := bn3 k (by omega)
        have hp1 : pv (dnb s) (k + 1) = ((dnb s + k : Nat) : Int) := by unfold pv; rw [if_neg (by omega)]; omega
        rw [hp1]
        refine bEnvF_step (sc := fun y => s_lp S l y k) (x := s_vl S l k) (b' := k) (t := A k) (m := M' k) (a := pv (dnb s) k) (by omega) (by omega) ih' (by unfold pv; split <;> omega) n1 n2 n3 (DT.2.2.2.2.2.2.1 k (by omega)).2.1 (hdd3 k (by omega)) (by rw [hdg3]; exact hAg k (by omega)) ?_ ?_
        · intro y hy
          have : ∀ k', k' ≤ s_pc S l → s_lp S l y k' = none := by
            intro k'
            induction k' with
            | zero => intro _; rfl
            | succ k' ih2 =>
              intro hk'
              have hv := (DT.2.2.2.2.2.2.1 k' (by omega)).2.1
              show (if s_vl S l k' = y then some k' else s_lp S l y k') = none
              rw [if_neg (by omega)]; exact ih2 (by omega)
          exact this k (by omega)
        · intro y
          show (if s_vl S l k = y then some k else s_lp S l y k) = _
          by_cases e : s_vl S l k = y
          · rw [if_pos e, if_pos e.symm]
          · rw [if_neg e, if_neg (fun h => e h.symm)]
    have env3 : bEnv S s3 (de s2) l (s_pc S l + 1) (pv (dnb s) (h + t)) := by
      have := henvk (s_pc S l) (Nat.le_refl _)
      rw [← hht] at this
      refine ⟨this.1, this.2.1, fun y b hy => this.2.2 y b ?_⟩
      rw [DT.2.2.2.2.2.2.2.2.2.2.1 y] at hy
      show s_lp S l y (h + t) = some b
      rw [hht]; exact hy
    -- the last state
    generalize hμF : m_evaluate (mS μ3 20 (hz_n (de s + 1 : Nat))) (hz_n (40 * l : Nat)) (hz_n (pv (dnb s) (h + t))) = μF
    have hsame : bSame (· = 40 * i + p) s3 (kA κE 9 (40 * i + p) (hz_n (40 * de s2 + (s_pc S l + 1) : Nat)), μF, s3.2.2) := by
      refine ⟨rfl, ⟨?_, ?_, ?_, ?_, ?_, ?_, ?_⟩, ?_, ?_, ?_, ?_, ?_, ?_, ?_⟩
      · rw [hdk3]; rfl
      · rw [hdk3]; rfl
      · rw [hdk3]; rfl
      · rw [hdk3]; rfl
      · intro b b1 b2; rw [hdk3]; exact kA2n _ _ _ _ _ (by omega)
      · intro c _; rw [hdk3]; show (kA κE 9 _ _).2.1 8 c = _; rw [kA2n _ _ _ _ _ (by decide)]
      · intro c hc
        have hc' : c ≠ 40 * i + p := hc
        rw [hdk3]
        show (kA κE 9 _ _).2.1 9 c = _ ∧ (kA κE 9 _ _).2.1 10 c = _
        rw [kA2, if_pos rfl, if_neg hc', kA2n _ _ _ _ _ (by decide)]; exact ⟨rfl, rfl⟩
      · show μF.1 15 = _
        rw [← hμF, m_evaluate1 (by decide) (by decide) (by decide), mS1, if_neg (by decide), s3' 15 (by decide), ag2.1.1, hms3 15 (by decide)]
      · show μF.1 16 = _
        rw [← hμF, m_evaluate1 (by decide) (by decide) (by decide), mS1, if_neg (by decide), s3' 16 (by decide), re.1 16 (by decide) (by decide), hms3 16 (by decide), I2.2.1.2.2.2.2.2.2.2.2.2.1, gc2, gc1]
        exact j10
      · show μF.1 17 = _
        rw [← hμF, m_evaluate1 (by decide) (by decide) (by decide), mS1, if_neg (by decide), s3' 17 (by decide), ag2.1.2.1, hms3 17 (by decide)]
      · show μF.1 19 = _
        rw [← hμF, m_evaluate1 (by decide) (by decide) (by decide), mS1, if_neg (by decide), s3' 19 (by decide), ag2.1.2.2.1, hms3 19 (by decide)]
      · show μF.1 20 = _
        rw [← hμF, m_evaluate1 (by decide) (by decide) (by decide), mS1, if_pos rfl, hm20, hde2]
      · intro b b1 b2 b3
        show μF.2 b = _
        rw [← hμF, m_evaluate2, mS2, a3 b (by omega) (by omega), hm3]; exact ag2.2.1 b b1 b2 b3
      · intro j hj
        show μF.2 33 j = _
        rw [← hμF, m_evaluate2, mS2, a3 33 (by decide) (by decide), hm3]
        refine ag2.2.2 j ?_
        rw [← hs3] at hj; exact hj
    have I4 := bInv_same st I3 hsame
    have u4 := bUp_same (S := S) (dfs := dfs) hsame I3.2.2.2.2.2.2.1
    obtain ⟨n1, n2⟩ := List.nodup_cons.mp K.2.2.1
    have hb3 : dnb s3 ≤ 950 := I3.2.1.2.2.2.2.2.2.2.2.2.2.2.2.2
    have K4 : bStk S (kA κE 9 (40 * i + p) (hz_n (40 * de s2 + (s_pc S l + 1) : Nat)), μF, s3.2.2) ((40 * i + p) :: r) := bStk_same hsame (by rw [hdk3]; exact kA2n _ _ _ _ _ (by decide)) (by rw [hdk3]; rfl) K3
    have hF37 : ∀ j, j < f2 → μF.2 37 j = (dm s3).2 37 j ∧ μF.2 38 j = (dm s3).2 38 j := by
      intro j hj
      rw [← hμF, m_evaluate2, mS2, (q37 j hj).1, (q37 j hj).2, hm3, hm3, f372, f382, f371, f381]; exact ⟨rfl, rfl⟩
    have fr4 : bFr S l0 f0 (kA κE 9 (40 * i + p) (hz_n (40 * de s2 + (s_pc S l + 1) : Nat)), μF, s3.2.2) r (40 * i + p) f1 := bFr_same I3 (bDefs_of st I3) hsame (fun c hc e => n1 (e ▸ hc)) (fun j hj => hF37 j (by omega)) fr3
    have kf4 : bKF S (kA κE 9 (40 * i + p) (hz_n (40 * de s2 + (s_pc S l + 1) : Nat)), μF, s3.2.2) (40 * i + p) f1 f2 := bKF_same I3 hsame (fun j hj => (hF37 j hj).1) kf3
    have hFs : ∀ b, b ≠ 15 → b ≠ 17 → b ≠ 18 → b ≠ 20 → b ≠ 22 → b ≠ 23 → b ≠ 24 → μF.1 b = (dm s).1 b := by
      intro b b1 b2 b3 b4 b5 b6 b7
      rw [← hμF, m_evaluate1 b5 b6 b7, mS1, if_neg b4, q18 b b1 b2 b3]
    have hi3 : i < de s3 := by omega
    have hcl3 : s_cl S (dl s3 i) p = 1 := by rw [hdl3']; exact hcl
    refine ⟨μF, bRun_refl _ _, Or.inl ⟨(kA κE 9 (40 * i + p) (hz_n (40 * de s2 + (s_pc S l + 1) : Nat)), μF, s3.2.2), (40 * i + p) :: r, rfl, ⟨I4, K4, ?_, ?_, hg, f1, f2, fr4, kf4, hge, Or.inr (Or.inr (Or.inr (Or.inr ⟨i, p, de s2, f3, rfl, hi3, hcl3, by show s_op S (dl s3 i) p = 6; rw [hdl3']; exact o, ?_, by show de s2 < de s3; omega, ?_, ?_, pv (dnb s) (h + t), ?_, rfl, ?_, ?_, ?_, ?_, ?_⟩)))⟩, ghL_t (ghL_g gr3) (ghL_g u4.1)⟩⟩
    · refine bFix_k fx ?_ ?_ ?_ ?_ ?_ (by show κE.2.2 3 = _; rw [ek.2.2.2.2.2.2.1, dk2, (kT_s t).2.1])
      · intro b hb
        show (kA κE 9 _ _).1 b = _
        rw [kA1, gs b (by omega), dk2, (kT_s t).1]
      · intro b hb
        show (kA κE 9 _ _).2.1 b = _
        rw [kA2n _ _ _ _ _ (by omega), ek.2.1 b (by omega) (by omega), dk2, (kT_s t).2.2 b (by omega) (by omega)]
      · intro b b1 b2; exact hFs b (by omega) (by omega) (by omega) (by omega) (by omega) (by omega) (by omega)
      · intro b hb
        show μF.2 b = _
        rw [← hμF, m_evaluate2, mS2]; exact q2 b hb
      · intro j hj
        show μF.2 37 j = _ ∧ μF.2 38 j = _
        rw [← hμF, m_evaluate2, mS2]; exact q37 j (by omega)
    · show (kA κE 9 _ _).1 5 = _
      rw [kA1, gs 5 (by decide), dk2, (kT_s t).1]; exact h5
    · -- it waits for the entry
      show bWt S l0 _ (40 * i + p) (40 * de s2 + (s_pc S (dl s3 (de s2)) + 1)) f2 f3
      rw [hdl3]
      refine Or.inr ⟨i, p, rfl, hi3, hcl3, ?_⟩
      show bW1 S _ i (dl s3 i) p _ _ _
      rw [hdl3']
      refine Or.inr (Or.inr (Or.inl ⟨o, ?_, by have := DT.2.2.2.1; have := DT.2.1; omega, u + t, by omega, ?_, ?_, ?_⟩))
      · show (kA κE 9 _ _).2.1 9 _ = _; rw [kA2, if_pos rfl, if_pos rfl]
      · show (kA κE 9 _ _).2.1 10 _ = _
        rw [kA2n _ _ _ _ _ (by decide), ek.2.1 10 (by decide) (by decide), dk2]
        exact t10' (by omega)
      · intro j jj1 jj2
        show dg s3 _ = none
        rw [hdg3]
        have := dg2' (j - u - 1) (by omega) (by omega)
        have e : u + (j - u - 1 + 1) = j := by omega
        rw [e] at this; exact this
      · have hroot4 : bRoot S ((kA κE 9 (40 * i + p) (hz_n (40 * de s2 + (s_pc S l + 1) : Nat)), μF, s3.2.2) : zD) (40 * de s2 + (s_pc S l + 1)) := by
          refine ⟨de s2, by show de s2 < de s3; omega, ?_⟩
          show _ = 40 * de s2 + (s_pc S (dl s3 (de s2)) + 1)
          rw [hdl3]
        have env4 : bEnv S ((kA κE 9 (40 * i + p) (hz_n (40 * de s2 + (s_pc S l + 1) : Nat)), μF, s3.2.2) : zD) i (dl s i) p (da s (40 * i + p)) := bEnv_mono hb3 u4.1 (bEnv_mono hb0 gr3 env)
        have hda4 : da ((kA κE 9 (40 * i + p) (hz_n (40 * de s2 + (s_pc S l + 1) : Nat)), μF, s3.2.2) : zD) (40 * i + p) = da s (40 * i + p) := hda3
        rw [hda4]
        rcases hf3 with ⟨e1, e2⟩ | ⟨e1, e2⟩
        · exact Or.inr (Or.inr ⟨by omega, e1, hroot4, e2⟩)
        · refine Or.inr (Or.inl ⟨by omega, e1, hroot4, e2, env4, ?_⟩)
          obtain ⟨z1, z2⟩ := frm3 e1
          refine ⟨?_, ?_⟩
          · show μF.2 37 f2 = _; rw [← hμF, m_evaluate2, mS2]; exact z1
          · show μF.2 38 f2 = _; rw [← hμF, m_evaluate2, mS2]; exact z2
    · show (kA κE 9 _ _).2.1 6 (40 * de s2 + (s_pc S (dl s3 (de s2)) + 1)) = _
      rw [hdl3, kA2n _ _ _ _ _ (by decide)]
      have : (dk s3).2.1 6 (40 * de s2 + (s_pc S l + 1)) = hz_n 0 := hroot
      rw [hdk3] at this; exact this
    · show dg s3 (40 * de s2 + (s_pc S (dl s3 (de s2)) + 1)) = none
      rw [hdl3]; exact hrg
    · show bEnv S _ (de s2) (dl s3 (de s2)) (s_pc S (dl s3 (de s2)) + 1) _
      rw [hdl3]; exact bEnv_mono hb3 u4.1 env3
    · show μF.1 18 = _
      rw [← hμF, m_evaluate1 (by decide) (by decide) (by decide), mS1, if_neg (by decide)]; exact s318
    · show μF.1 22 = hz_n (40 * dl s3 (de s2) : Nat)
      rw [hdl3, ← hμF]; rfl
    · show μF.1 23 = _; rw [← hμF]; rfl
    · exact bCnt_same hsame cnt3
    · show μF.1 21 = _; rw [hFs 21 (by decide) (by decide) (by decide) (by decide) (by decide) (by decide) (by decide)]; exact h21
  · rw [if_pos (by omega)] at g3
    rw [g_enterO I2 (by omega), Option.bind_some, zt (40 * i + p) (by omega), zgd_t (by omega), Int.toNat_natCast] at hgt
    refine ⟨_, hgt, bEnds (z := -2) (μ' := mS μ3 21 (hz_n (-2))) I fx (by omega) (bRun_go h21 r22 r18 (by omega) g3) rfl ?_ ?_ rfl ?_ ?_ ?_ ?_ (by show (dk s2).2.2 3 = _; rw [dk2, (kT_s t).2.1])⟩
    · intro b hb; rw [kA1, kS1, if_neg hb, dk2, (kT_s t).1]
    · intro b hb; rw [kA2n _ _ _ _ _ (by omega), kS2, dk2, (kT_s t).2.2 b (by omega) (by omega)]
    · intro b b1 b2; rw [mS1, if_neg (by omega)]; exact q18 b (by omega) (by omega) (by omega)
    · rw [mS1, if_neg (by decide)]; exact q18 20 (by decide) (by decide) (by decide)
    · intro b hb; exact q2 b hb
    · intro j hj; exact q37 j (by omega)

theorem psi_fn {S : zG} {dfs : Nat → Option Nat} {s : zD} {l h j0 : Nat} {v : Int32} (hl : l < 26) (hh : h ≤ 3) (hj : dnc s ≤ 2600) (hv0 : h = 0 → v = hz_n (-1 - (l : Int))) (hv1 : 0 < h → v = hz_n j0 ∧ j0 + 2 + h ≤ dnc s ∧ (dm s).2 33 j0 = hz_n l ∧ (dm s).2 33 (j0 + 1) = hz_n h) : psi (dm s) (hz_n 3) v = phi h := by
  unfold psi
  rw [zn_ti (by omega), if_neg (by omega), if_pos rfl]
  by_cases h0 : h = 0
  · subst h0
    rw [hv0 rfl, zn_ti (by omega), if_pos (by omega)]; rfl
  · obtain ⟨e1, e2, e3, e4⟩ := hv1 (by omega)
    rw [e1, zt j0 (by omega), if_neg (by omega), Int.toNat_natCast, e4, zt h (by omega), Int.toNat_natCast]
theorem phi_le (h : Nat) : phi h ≤ 12 := by
  match h with
  | 0 => decide
  | 1 => decide
  | 2 => decide
  | n + 3 => exact Nat.le_refl _
-- an application, a value has come
theorem bW_6 {E : Nat → Option zT} {dfs : Nat → Option Nat} {ST : Nat → Nat → Int32} {F l0 am f0 g wn wr : Nat} {S : zG} {kw : zK} {mw : zM} {s : zD} {r : List Nat} {f1 f2 f i p d u : Nat} {k v : Int32}
    (hF : 951 ≤ F) (st : bSta E dfs ST F S) (I : bInv S dfs ST l0 am s) (K : bStk S s ((40 * i + p) :: r)) (fx : bFix kw mw f0 (dk s) (dm s)) (h5 : (dk s).1 5 = hz_n 0) (hg : ((40 * i + p) :: r).getLast? = some g) (fr : bFr S l0 f0 s r (40 * i + p) f1) (kf : bKF S s (40 * i + p) f1 f2) (hf2 : f2 + 1 < 2150) (hn : dnp s < 995) (hnc : dnc s + 5 ≤ 2600) (hnb : dnb s < 945)
    (hi : i < de s) (hcl : s_cl S (dl s i) p = 1) (o : s_op S (dl s i) p = 6) (hreg : bReg s (dm s) f k v) (vr : bVR S dfs s (ks s d) (kv s d) k v) (cnt : bCnt S s wn wr 0 (psi (dm s) k v) 0 0) (h21 : (dm s).1 21 = hz_n 0)
    (h9 : (dk s).2.1 9 (40 * i + p) = hz_n d) (hd : d < 2000) (hu : u ≤ s_mo S (dl s i) p) (h10 : (dk s).2.1 10 (40 * i + p) = hz_n (40 * i + s_arg S (dl s i) p u : Nat)) (hgn : ∀ j, u < j → j ≤ s_mo S (dl s i) p → dg s (40 * i + s_arg S (dl s i) p j) = none)
    (hw : (u = 0 ∧ d = 40 * i + (p + 1) ∧ f = f2 + 1 ∧ bEnv S s i (dl s i) p (da s (40 * i + p)) ∧ bFrm s f2 2 (40 * dl s i + s_nd S (dl s i) p) (hz_n (da s (40 * i + p))))
        ∨ (0 < u ∧ u < s_mo S (dl s i) p ∧ bRoot S s d ∧ f = f2 + 1 ∧ bEnv S s i (dl s i) p (da s (40 * i + p)) ∧ bFrm s f2 10 (40 * dl s i + s_nd S (dl s i) p) (hz_n (8 * (da s (40 * i + p) + 1) + (u : Int))))
        ∨ (0 < u ∧ u = s_mo S (dl s i) p ∧ bRoot S s d ∧ f = f2)) :
    ∃ κ', g_lookAt (dk s) E (hz_n (40 * i + p : Nat)) = some κ' ∧ bOutc S dfs ST F l0 am f0 g wn wr kw mw (ghs s) κ' (dm s) := by
  obtain ⟨sh, hp, hi50, h6⟩ := zsg st I hi hcl
  obtain ⟨_, k0, _, mo1, mo4, args, nx0⟩ := bSh6 sh o
  have hl' := (I.2.2.1 i hi).1
  obtain ⟨TT, DD⟩ := bDefs_of st I i hi
  have hN := DD.2.2.2.2.2.2.2.2.2.2.2.2.2 p hcl
  have hx := zvr vr
  have hau : s_cl S (dl s i) (s_arg S (dl s i) p u) = 1 := by
    cases u with
    | zero => exact k0.1
    | succ u => exact (args u (by omega)).1.1
  have e1 : g_request (dk s) (hz_n d) = some (hz_n 1, dk s) := q_reqk (by omega) hx.1 hx.2
  rw [g_la6 st I hi hcl o]
  unfold g_lookAtApplication
  rw [zt (40 * i + p) (by omega), zgd_t (by omega), Int.toNat_natCast, h9, e1, Option.bind_some]
  dsimp only
  have t1 : (hz_n 1).toInt = 1 := zn_ti (by omega)
  rw [t1, if_neg (by omega), zgd_t (by omega), h10, g_next (i := i) (p := s_arg S (dl s i) p u) st I (κ := dk s) rfl hi hau, Option.bind_some, zt d (by omega), zgd_t (by omega), Int.toNat_natCast]
  by_cases hum : u = s_mo S (dl s i) p
  · -- all are used up
    have hf : f = f2 := by
      rcases hw with h | h | h
      · omega
      · omega
      · exact h.2.2.2
    subst hf
    have e2 : s_nx S (dl s i) (s_arg S (dl s i) p u) = 0 := by rw [hum]; exact nx0
    rw [if_pos e2, zn_ti (by omega), if_pos rfl]
    exact ⟨_, q_keep (by omega) K.1, bTailR st I K fx h5 hg fr kf (by omega) hi hcl (by omega) hreg vr cnt h21⟩
  · have hu' : u < s_mo S (dl s i) p := by omega
    have lt1 := (args u hu').2.1
    have q1 := (zsg st I hi (args u hu').1.1).2.2.2
    have enx : s_arg S (dl s i) p (u + 1) = s_nx S (dl s i) (s_arg S (dl s i) p u) := rfl
    rw [if_neg (show ¬ s_nx S (dl s i) (s_arg S (dl s i) p u) = 0 by omega), ← enx, zt _ (by omega), if_neg (by omega)]
    obtain ⟨env, hfe, hgo⟩ : bEnv S s i (dl s i) p (da s (40 * i + p)) ∧ f = f2 + 1 ∧ ((dm s).1 18 = hz_n (f2 + 1 : Nat) → m_goOn (dm s) F = m_feed (mPop (dm s) f2) F (hz_n (40 * dl s i + s_nd S (dl s i) p : Nat)) (hz_n u) (hz_n (da s (40 * i + p)))) := by
      rcases hw with ⟨a1, a2, a3, a4, a5⟩ | ⟨a1, a2, a3, a4, a5, a6⟩ | h
      · refine ⟨a4, a3, fun r18 => ?_⟩
        subst a1
        rw [m_goF (F := F) (f := f2) (w := 2) (a := 40 * dl s i + s_nd S (dl s i) p) r18 (by omega) a5.1 a5.2 (by omega) (by omega)]
        unfold m_go2
        have t3 : (hz_n ((2 : Nat) : Int)).toInt = 2 := zn_ti (by omega)
        rw [t3, if_neg (by omega), if_pos rfl]
        rfl
      · refine ⟨a5, a4, fun r18 => ?_⟩
        have b1 := a5.1
        have b2 := a5.2.1
        have b3 : dnb s ≤ 950 := by omega
        rw [m_goF (F := F) (f := f2) (w := 10) (a := 40 * dl s i + s_nd S (dl s i) p) r18 (by omega) a6.1 a6.2 (by omega) (by omega)]
        unfold m_go2
        have t3 : (hz_n ((10 : Nat) : Int)).toInt = 10 := zn_ti (by omega)
        have x1 : hz_n (8 * (da s (40 * i + p) + 1) + (u : Int)) / hz_n 8 = hz_n (da s (40 * i + p) + 1) := by rw [zn_div (by omega) (by omega)]; congr 1; omega
        have x2 : hz_n (8 * (da s (40 * i + p) + 1) + (u : Int)) - hz_n (da s (40 * i + p) + 1) * hz_n 8 = hz_n u := by rw [zn_mul, zn_sub]; congr 1; omega
        have x3 : hz_n (da s (40 * i + p) + 1) - hz_n 1 = hz_n (da s (40 * i + p)) := by rw [zn_sub]; congr 1; omega
        rw [t3, if_neg (by omega), if_neg (by omega), if_neg (by omega), if_neg (by omega), if_neg (by omega), if_neg (by omega), if_pos rfl, x1, x2, x3]
        rfl
      · omega
    subst hfe
    obtain ⟨_, r18, r22, r24, r25⟩ := hreg
    have hgo := hgo r18
    by_cases hk : k = hz_n 3
    · have hs5 : ks s d = hz_n 5 := (zvr2 vr).2.2.2.mpr hk
      have hs5' : ((dk s).2.1 6 d).toInt = 5 := (zkt (by omega)).mpr hs5
      rw [if_pos hs5']
      have hfn : bFnr S dfs s (kv s d) v := by
        rcases vr with h | h | h | h
        · rw [h.1] at hs5; exact absurd hs5 (by decide)
        · rw [h.1] at hs5; exact absurd hs5 (by decide)
        · rw [h.1] at hs5; exact absurd hs5 (by decide)
        · exact h.2.2
      obtain ⟨l, h, j0, B, hl, hh, hdf, cb, hv0, hv1⟩ := bFn_of hfn
      have hpc4 : s_pc S l ≤ 4 := by
        rcases st l hl with ⟨h, _⟩ | ⟨d, T, _, _, _, D⟩
        · exact absurd h hdf
        · exact D.2.2.1
      have hps := psi_fn (S := S) (dfs := dfs) hl (by omega) (by omega) hv0 hv1
      rw [hk, hps] at cnt
      rw [hk] at r24
      by_cases hle : s_pc S l - h ≤ s_mo S (dl s i) p - u
      · exact bFeedE hF st I K fx h5 hg fr kf hf2 hn hnb hi hcl o hu' h21 r18 r22 r24 r25 h10 hgn env hgo hl hh hdf cb hv0 hv1 hle (bCnt_ps (phi_le h) (Nat.le_refl _) cnt)
      · exact bFeedX hF st I K fx h5 hg fr kf hf2 hn hnc hi hcl o hu' h21 r18 r22 r24 r25 h10 hgn env hgo hl hh hdf cb hv0 hv1 (by omega) cnt
    · have hs5 : ks s d ≠ hz_n 5 := fun e => hk ((zvr2 vr).2.2.2.mp e)
      have hs5' : ¬ ((dk s).2.1 6 d).toInt = 5 := fun e => hs5 ((zkt (by omega)).mp e)
      rw [if_neg hs5']
      refine ⟨_, rfl, bEndB (f := f2) I fx (bRun_go h21 r22 r18 (by omega) ?_)⟩
      rw [hgo]
      unfold m_feed
      have e23 : (mPop (dm s) f2).2 23 (40 * dl s i + s_nd S (dl s i) p) = hz_n (s_mo S (dl s i) p) := by
        have : (mPop (dm s) f2).2 23 = ST 23 := I.1.1 23 (by decide) (by decide)
        rw [this]; exact hN.2.2.2.2.2.2.2.2.2.2.1 (Or.inl o)
      have p24 : (mPop (dm s) f2).1 24 = k := r24
      have tu : (hz_n (u : Int)).toInt = u := zt u (by omega)
      rw [zt _ (by omega), zgd_t (by omega), Int.toNat_natCast, e23, tu, zt (s_mo S (dl s i) p) (by omega), if_neg (by omega), p24, if_neg (fun e => hk ((zkt (by omega)).mp e))]
-- the entry is gone down to
theorem bSt_c {E : Nat → Option zT} {dfs : Nat → Option Nat} {ST : Nat → Nat → Int32} {F l0 am f0 g wn wr : Nat} {S : zG} {kw : zK} {mw : zM} {s : zD} {r : List Nat} {f1 f2 f i p i' : Nat} {a : Int}
    (hF : 951 ≤ F) (st : bSta E dfs ST F S) (I : bInv S dfs ST l0 am s) (K : bStk S s ((40 * i + p) :: r)) (fx : bFix kw mw f0 (dk s) (dm s)) (h5 : (dk s).1 5 = hz_n 0) (hg : ((40 * i + p) :: r).getLast? = some g) (fr : bFr S l0 f0 s r (40 * i + p) f1) (kf : bKF S s (40 * i + p) f1 f2) (hf : f < 2150) (hn : dnp s < 1000)
    (hi : i < de s) (hcl : s_cl S (dl s i) p = 1) (o : s_op S (dl s i) p = 6) (wt : bWt S l0 s (40 * i + p) (40 * i' + (s_pc S (dl s i') + 1)) f2 f) (hi' : i' < de s) (h0 : ks s (40 * i' + (s_pc S (dl s i') + 1)) = hz_n 0) (hgn : dg s (40 * i' + (s_pc S (dl s i') + 1)) = none)
    (env : bEnv S s i' (dl s i') (s_pc S (dl s i') + 1) a) (r18 : (dm s).1 18 = hz_n f) (r22 : (dm s).1 22 = hz_n (40 * dl s i' : Nat)) (r23 : (dm s).1 23 = hz_n a) (cnt : bCnt S s wn wr 0 0 0 0) (h21 : (dm s).1 21 = hz_n 0) :
    ∃ κ', g_lookAt (dk s) E (hz_n (40 * i + p : Nat)) = some κ' ∧ bOutc S dfs ST F l0 am f0 g wn wr kw mw (ghs s) κ' (dm s) := by
  obtain ⟨sh, hp, hi50, h6⟩ := zsg st I hi hcl
  obtain ⟨T, D⟩ := bDefs_of st I i' hi'
  have hcl' := D.2.2.2.2.2.2.2.1
  have hro' := D.2.2.2.2.2.2.2.2.1
  have hnd' := D.2.2.2.2.2.2.2.2.2.1.1
  have q' := (zsg st I hi' hcl').2.2.2
  have hlen := bStk_len st I K (d := 40 * i' + (s_pc S (dl s i') + 1)) (by omega) h0
  have h9 : (dk s).2.1 9 (40 * i + p) = hz_n (40 * i' + (s_pc S (dl s i') + 1) : Nat) := by
    rcases wt with ⟨e, _⟩ | ⟨i2, p2, e1, e2, e3, w⟩
    · omega
    · have := (zsg st I e2 e3).2.1
      have y1 : i2 = i := by omega
      have y2 : p2 = p := by omega
      subst y1; subst y2
      rcases w with ⟨b, _⟩ | ⟨b, _⟩ | ⟨_, b, _⟩ | ⟨b, _⟩ | ⟨b, _⟩ | ⟨b, _⟩ | ⟨b, _⟩
      · omega
      · omega
      · exact b
      · omega
      · omega
      · omega
      · omega
  rw [g_la6 st I hi hcl o]
  unfold g_lookAtApplication
  have e1 : g_request (dk s) (hz_n (40 * i' + (s_pc S (dl s i') + 1) : Nat)) = some (hz_n 0, kPush (dk s) (40 * i' + (s_pc S (dl s i') + 1)) (r.length + 1)) := q_req0 (by omega) h0 K.1 hlen
  rw [zt (40 * i + p) (by omega), zgd_t (by omega), Int.toNat_natCast, h9, e1, Option.bind_some]
  dsimp only
  rw [zn_ti (by omega), if_pos rfl]
  refine ⟨_, rfl, bDown hF st I K fx h5 hg fr kf wt hf hn h21 hi' hcl' h0 (Or.inr hro') hgn r18 ?_ r23 env cnt⟩
  rw [hnd']; exact r22

-- what a step needs of room
def bRoomy (s : zD) (f2 : Nat) : Prop := f2 + 2 < 2150 ∧ dnp s < 995 ∧ dnc s + 5 ≤ 2600 ∧ dnb s < 945
-- one look of the class
theorem bStep {E : Nat → Option zT} {dfs : Nat → Option Nat} {ST : Nat → Nat → Int32} {F l0 am f0 g wn wr : Nat} {S : zG} {kw : zK} {mw : zM} {s : zD} {μ : zM} {c : Nat} {r : List Nat}
    (hF : 951 ≤ F) (st : bSta E dfs ST F S) (H : bSim S dfs ST l0 am f0 g wn wr kw mw s μ (c :: r)) (rm : ∀ f1 f2, bFr S l0 f0 s r c f1 → bKF S s c f1 f2 → bRoomy s f2) :
    ∃ κ', g_lookAt (dk s) E (hz_n c) = some κ' ∧ bOutc S dfs ST F l0 am f0 g wn wr kw mw (ghs s) κ' μ := by
  obtain ⟨I, K, fx, h5, hg, f1, f2, fr, kf, hge, ph⟩ := H
  obtain ⟨rm1, rm2, rm3, rm4⟩ := rm f1 f2 fr kf
  have root : g_lookAt (dk s) E (hz_n (2000 : Nat)) = g_lookAtLetter (dk s) E (hz_n (2000 : Nat)) (hz_n l0) := by
    unfold g_lookAt
    rw [zt 2000 (by omega), if_pos (by rfl), I.2.1.2.2.2.2.2.2.1]
  have hl0 := I.2.1.2.2.2.2.2.2.2.1
  rcases ph with ⟨pe, o5, cnt, h21⟩ | ⟨m, cr, nm, hnd, r18, cnt, h21⟩ | ⟨i, p, k, v, e1, hi, hcl, hreg, ho, cnt, h21⟩ | ⟨d, f, k, v, wt, hreg, vr, cnt, h21⟩ | ⟨i, p, i', f, e1, hi, hcl, o, wt, hi', h0, hgn, a, env, hμ, r18, r22, r23, cnt, h21⟩
  · -- a first look
    obtain ⟨i, p, e1, hi, hcl, vir, k9, k10, env, e2, r18, r22, r23⟩ := pe
    subst e2; subst e1
    obtain ⟨sh, hp, hi50, h6⟩ := zsg st I hi hcl
    have x1 : (40 * i + p) / 40 = i := by omega
    have x2 : (40 * i + p) % 40 = p := by omega
    rw [x1, x2] at o5
    have hop := bShop sh
    by_cases o : s_op S (dl s i) p = 5
    · exact bSt_5 hF st I K fx h5 hg fr kf (by omega) (by omega) (by omega) h21 hi hcl o vir env r18 r22 r23 cnt
    · by_cases o' : s_op S (dl s i) p = 10
      · exact bSt_10 hF st I K fx h5 hg fr kf (by omega) (by omega) (by omega) h21 hi hcl o' vir env r18 r22 r23 cnt
      · exact bSt_f hF st I K fx h5 hg fr kf (by omega) (by omega) h21 hi hcl (by omega) vir k9 k10 env r18 r22 r23 cnt
  · -- a need
    rcases nm with ⟨e1, em, ec⟩ | ⟨i, p, e1, hi, hcl, ⟨o1, ec, t, t1, t2, t3⟩ | ⟨o3, ec, em⟩⟩
    · subst e1; subst em; subst ec
      rw [root]
      exact bLet hF st I K fx h5 hg fr kf (by omega) (by omega) hl0 (Or.inl ⟨rfl, rfl⟩) hnd r18 cnt h21
    · subst e1; subst ec
      exact bSt_1 hF st I K fx h5 hg fr kf (by omega) (by omega) hi hcl o1 t1 t2 t3 hnd r18 cnt h21
    · subst e1; subst ec; subst em
      rw [g_la3 st I hi hcl o3]
      exact bLet hF st I K fx h5 hg fr kf (by omega) (by omega) (bSh3 (zsg st I hi hcl).1 o3).2 (Or.inr ⟨i, p, rfl, hi, hcl, o3, rfl⟩) hnd r18 cnt h21
  · -- a digit or ~
    subst e1
    have := hreg.1
    subst this
    exact bSt_v st I K fx h5 hg fr kf (by omega) hi hcl hreg ho cnt h21
  · -- a part has come
    have := hreg.1
    subst this
    rcases wt with ⟨e1, w1, w2, w3⟩ | ⟨i, p, e1, hi, hcl, w⟩
    · subst e1; subst w3
      rw [root]
      exact bW_3 st I K fx h5 hg fr kf (by omega) (by omega) hl0 (Or.inl rfl) hreg vr cnt h21 w1 w2
    · subst e1
      obtain ⟨sh, hp, hi50, h6⟩ := zsg st I hi hcl
      rcases w with ⟨o, a1, _, a2⟩ | ⟨o, a1, a2, a3⟩ | ⟨o, a1, a2, u, a3, a4, a5, a6⟩ | ⟨o, a⟩ | ⟨o, a⟩ | ⟨o, a⟩ | ⟨o, a1, a2, a3⟩
      · subst a2
        exact bW_1 st I K fx h5 hg fr kf (by omega) hi hcl hreg vr cnt h21 o a1
      · subst a3
        rw [g_la3 st I hi hcl o]
        exact bW_3 st I K fx h5 hg fr kf (by omega) (by omega) (bSh3 sh o).2 (Or.inr ⟨i, p, rfl, hi, hcl, o, rfl⟩) hreg vr cnt h21 a1 a2
      · exact bW_6 hF st I K fx h5 hg fr kf (by omega) rm2 rm3 rm4 hi hcl o hreg vr cnt h21 a1 a2 a3 a4 a5 a6
      · rcases a with ⟨a1, a2, a3, a4, a5⟩ | ⟨a1, a2, a3, a4⟩
        · subst a1; subst a3
          exact bW_71 hF st I K fx h5 hg fr kf (by omega) (by omega) hi hcl hreg vr cnt h21 o a2 a4 a5
        · subst a1; subst a3
          exact bW_72 st I K fx h5 hg fr kf (by omega) hi hcl hreg vr cnt h21 o a2 a4
      · rcases a with ⟨a1, a2, a3, a4, a5, a6⟩ | ⟨a1, a2, a3⟩
        · subst a1; subst a4
          exact bW_81 hF st I K fx h5 hg fr kf (by omega) (by omega) hi hcl hreg vr cnt h21 o a2 a3 a5 a6
        · subst a2
          exact bW_tail st I K fx h5 hg fr kf (by omega) hi hcl hreg vr cnt h21 (Or.inl ⟨o, a1, a3⟩)
      · rcases a with ⟨a1, a2, a3, a4, a5, a6, a7, a8⟩ | ⟨a1, a2, a3⟩ | ⟨a1, a2, a3, i', p', a, b, b1, b2, b3, b4⟩
        · subst a1; subst a6
          exact bW_91 hF st I K fx h5 hg fr kf (by omega) (by omega) (by omega) hi hcl hreg vr cnt h21 o a2 a3 a4 a5 a7 a8
        · subst a3
          exact bW_tail st I K fx h5 hg fr kf (by omega) hi hcl hreg vr cnt h21 (Or.inr (Or.inl ⟨o, a1, a2⟩))
        · subst a1; subst a3
          exact bW_93 st I K fx h5 hg fr kf (by omega) hi hcl hreg vr cnt h21 o a2 b1 b2 b3 b4
      · subst a3
        exact bW_tail st I K fx h5 hg fr kf (by omega) hi hcl hreg vr cnt h21 (Or.inr (Or.inr ⟨o, a1, a2⟩))
  · subst e1; subst hμ
    have hf : f ≤ f2 + 1 := by
      rcases wt with ⟨h, _⟩ | ⟨i2, p2, e1, e2, e3, w⟩
      · have := (zsg st I hi hcl).2.2.2; omega
      · rcases w with ⟨_, _, _, b⟩ | ⟨_, _, _, b⟩ | ⟨_, _, _, u, _, _, _, b⟩ | ⟨_, b⟩ | ⟨_, b⟩ | ⟨_, b⟩ | ⟨_, _, _, b⟩
        · omega
        · omega
        · rcases b with b | b | b <;> omega
        · rcases b with b | b <;> omega
        · rcases b with b | b <;> omega
        · rcases b with b | b | b <;> omega
        · omega
    exact bSt_c hF st I K fx h5 hg fr kf (by omega) (by omega) hi hcl o wt hi' h0 hgn env r18 r22 r23 cnt h21
