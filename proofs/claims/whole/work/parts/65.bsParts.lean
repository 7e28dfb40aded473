def bEnvF (sc : Nat → Option Nat) (s : zD) (i : Nat) (a : Int) : Prop := -1 ≤ a ∧ a < dnb s ∧ ∀ v b, sc v = some b →
  ∃ (t : Nat) (m : Int) (k : Nat), dd s (40 * i + b) = some t ∧ dg s t = some m ∧ m_look (dm s) (hz_n v) (a + 1).toNat (hz_n a) = some (hz_n k) ∧ k < dnb s ∧ (dm s).2 35 k = hz_n m
theorem bEnvF_bind {sc sc' : Nat → Option Nat} {s s' : zD} {i x b' t : Nat} {a m : Int} (hb : dnb s < 950) (g : bGrow s s') (env : bEnvF sc s i a) (hn : dnb s < dnb s') (h34 : (dm s').2 34 (dnb s) = hz_n x) (h35 : (dm s').2 35 (dnb s) = hz_n m) (h36 : (dm s').2 36 (dnb s) = hz_n a) (hx : x < 26)
    (hd : dd s' (40 * i + b') = some t) (hg : dg s' t = some m) (hv26 : ∀ v, 26 ≤ v → sc v = none) (hsc : ∀ v, sc' v = if v = x then some b' else sc v) : bEnvF sc' s' i (dnb s) := by
  refine ⟨by omega, by omega, fun v b hv => ?_⟩
  have hfu : ((dnb s : Int) + 1).toNat = dnb s + 1 := by omega
  rw [hfu]
  have hlk : m_look (dm s') (hz_n v) (dnb s + 1) (hz_n (dnb s)) = if (x : Int) = (hz_n v).toInt then some (hz_n (dnb s)) else m_look (dm s') (hz_n v) (dnb s) (hz_n a) := by
    conv => lhs; unfold m_look
    rw [zt (dnb s) (by omega), if_pos (by omega), Int.toNat_natCast, h34, h36, zt x (by omega)]
  rw [hsc] at hv
  split at hv
  · rename_i e
    have := Option.some.inj hv
    subst this; subst e
    refine ⟨t, m, dnb s, hd, hg, ?_, hn, h35⟩
    rw [hlk, if_pos (by rw [zt v (by omega)])]
  · rename_i e
    have hv26' : v < 26 := by
      by_cases h : v < 26
      · exact h
      · rw [hv26 v (by omega)] at hv; exact absurd hv (by simp)
    obtain ⟨t', m', k, b1, b2, b3, b4, b5⟩ := env.2.2 v b hv
    refine ⟨t', m', k, g.1.2.1 _ _ b1, g.1.1 _ _ b2, ?_, by omega, ?_⟩
    · rw [hlk, if_neg (by rw [zt v (by omega)]; omega)]
      refine m_look_up (f := (a + 1).toNat) (by have := env.2.1; have := env.1; omega) ?_
      rw [bLook_mono (nb := dnb s) (by omega) (fun k hk => ⟨(g.2.2.1.2 k hk).1, (g.2.2.1.2 k hk).2.2⟩) g.2.2.2.2 env.1 env.2.1]
      exact b3
    · rw [(g.2.2.1.2 k b4).2.1]; exact b5
theorem bEnv_bind {S : zG} {s s' : zD} {i l p q x b' t : Nat} {a m : Int} (hb : dnb s < 950) (g : bGrow s s') (env : bEnv S s i l p a) (hn : dnb s < dnb s') (h34 : (dm s').2 34 (dnb s) = hz_n x) (h35 : (dm s').2 35 (dnb s) = hz_n m) (h36 : (dm s').2 36 (dnb s) = hz_n a) (hx : x < 26)
    (hd : dd s' (40 * i + b') = some t) (hg : dg s' t = some m) (hv26 : ∀ v, 26 ≤ v → s_sc S l p v = none) (hsc : ∀ v, s_sc S l q v = if v = x then some b' else s_sc S l p v) : bEnv S s' i l q (dnb s) :=
  bEnvF_bind (sc := s_sc S l p) (sc' := s_sc S l q) hb g env hn h34 h35 h36 hx hd hg hv26 hsc
theorem bGrow_trans {s s' s'' : zD} (h : bGrow s s') (h' : bGrow s' s'') : bGrow s s'' := by
  obtain ⟨⟨x1, x2, x3⟩, ⟨x4, x5⟩, ⟨x6, x7⟩, ⟨x8, x9⟩, x10⟩ := h
  obtain ⟨⟨y1, y2, y3⟩, ⟨y4, y5⟩, ⟨y6, y7⟩, ⟨y8, y9⟩, y10⟩ := h'
  refine ⟨⟨fun c m h => y1 _ _ (x1 _ _ h), fun c t h => y2 _ _ (x2 _ _ h), fun c h => ?_⟩, ⟨by omega, fun j hj => ?_⟩, ⟨by omega, fun k hk => ?_⟩, ⟨by omega, fun i' hi' => ?_⟩, x10⟩
  · rw [y3 c ?_, x3 c h]
    cases hx : dg s c with
    | none => exact absurd hx h
    | some m => rw [x1 _ _ hx]; simp
  · rw [y5 j (by omega), x5 j hj]
  · obtain ⟨a1, a2, a3⟩ := x7 k hk
    obtain ⟨b1, b2, b3⟩ := y7 k (by omega)
    exact ⟨by rw [b1, a1], by rw [b2, a2], by rw [b3, a3]⟩
  · rw [y9 i' (by omega), x9 i' hi']
theorem m_bindF {μ : zM} {nb : Nat} {v p a : Int32} (h : μ.1 17 = hz_n nb) (hn : nb < 950) : m_bind μ v p a = mS (mA (mA (mA μ 34 nb v) 35 nb p) 36 nb a) 17 (hz_n (nb + 1 : Nat)) := by
  unfold m_bind; rw [h, zt nb (by omega), Int.toNat_natCast, zn1]
def mB (μ : zM) (nb : Nat) (v p a : Int32) : zM := mS (mA (mA (mA μ 34 nb v) 35 nb p) 36 nb a) 17 (hz_n (nb + 1 : Nat))
theorem mB_a (μ : zM) (nb : Nat) (v p a : Int32) (b x : Nat) : (mB μ nb v p a).2 b x = if b = 36 then (if x = nb then a else μ.2 36 x) else if b = 35 then (if x = nb then p else μ.2 35 x) else if b = 34 then (if x = nb then v else μ.2 34 x) else μ.2 b x := by
  unfold mB
  simp only [mS2, mA2]
  by_cases h : b = 36
  · subst h; simp
  · by_cases h' : b = 35
    · subst h'; simp
    · simp [h, h']
theorem mB_an (μ : zM) (nb : Nat) (v p a : Int32) (b : Nat) (h : b ≠ 34) (h' : b ≠ 35) (h'' : b ≠ 36) : (mB μ nb v p a).2 b = μ.2 b := by
  funext x; rw [mB_a]; simp [h, h', h'']
theorem mB_s (μ : zM) (nb : Nat) (v p a : Int32) (b : Nat) (h : b ≠ 17) : (mB μ nb v p a).1 b = μ.1 b := by unfold mB; rw [mS1, if_neg h]; rfl
-- a bind of the reference
theorem bRm_bind {dfs : Nat → Option Nat} {ST : Nat → Nat → Int32} {l0 am : Nat} {S : zG} {s : zD} {v p : Int32} {a : Int} (I : bInv S dfs ST l0 am s) (hn : dnb s < 950) (ha : -1 ≤ a ∧ a < dnb s) : bRm s (mB (dm s) (dnb s) v p (hz_n a)) (dnc s) (dnb s + 1) := by
  obtain ⟨j1, j2, j3, j4, j5, j6, j7, j8, j9, j10, j11, j12, j13, j14⟩ := I.2.1
  refine ⟨⟨Nat.le_refl _, j13, Nat.le_succ _, hn⟩, ⟨mB_s _ _ _ _ _ _ (by decide), mB_s _ _ _ _ _ _ (by decide), mB_s _ _ _ _ _ _ (by decide), ?_, rfl⟩, ?_, ?_, ?_, ?_⟩
  · rw [mB_s _ _ _ _ _ _ (by decide)]; exact j10
  · intro b b1 b2; exact mB_an _ _ _ _ _ _ (by omega) (by omega) (by omega)
  · intro j _; rw [mB_an _ _ _ _ _ _ (by decide) (by decide) (by decide)]
  · intro k hk
    rw [mB_a, mB_a, mB_a]
    simp [show ¬ k = dnb s by omega]
  · intro k hk
    rw [mB_a, if_pos rfl]
    by_cases e : k = dnb s
    · rw [if_pos e]; exact ⟨a, rfl, ha.1, by omega⟩
    · rw [if_neg e]; exact I.2.2.2.2.2.2.1 k (by omega)
-- a let
theorem bSt_10 {E : Nat → Option zT} {dfs : Nat → Option Nat} {ST : Nat → Nat → Int32} {F l0 am f0 g wn wr : Nat} {S : zG} {kw : zK} {mw : zM} {s : zD} {r : List Nat} {f1 f2 i p : Nat}
    (hF : 951 ≤ F) (st : bSta E dfs ST F S) (I : bInv S dfs ST l0 am s) (K : bStk S s ((40 * i + p) :: r)) (fx : bFix kw mw f0 (dk s) (dm s)) (h5 : (dk s).1 5 = hz_n 0) (hg : ((40 * i + p) :: r).getLast? = some g) (fr : bFr S l0 f0 s r (40 * i + p) f1) (kf : bKF S s (40 * i + p) f1 f2) (hf2 : f2 + 1 < 2150) (hn : dnp s < 998) (hnb : dnb s < 950)
    (h21 : (dm s).1 21 = hz_n 0) (hi : i < de s) (hcl : s_cl S (dl s i) p = 1) (ho : s_op S (dl s i) p = 10) (vir : bVir S s i (dl s i) p)
    (env : bEnv S s i (dl s i) p (da s (40 * i + p))) (r18 : (dm s).1 18 = hz_n f2) (r22 : (dm s).1 22 = hz_n (40 * dl s i + s_nd S (dl s i) p : Nat)) (r23 : (dm s).1 23 = hz_n (da s (40 * i + p))) (cnt : bCnt S s wn wr 0 0 0 0) :
    ∃ κ', g_lookAt (dk s) E (hz_n (40 * i + p : Nat)) = some κ' ∧ bOutc S dfs ST F l0 am f0 g wn wr kw mw (ghs s) κ' (dm s) := by
  obtain ⟨T, D⟩ := bDefs_of st I i hi
  obtain ⟨sh, hp, hi50, h6⟩ := zsg st I hi hcl
  have hN := D.2.2.2.2.2.2.2.2.2.2.2.2.2 p hcl
  have hl := (I.2.2.1 i hi).1
  have hkc := (K.2.2.2.1 _ (List.mem_cons_self ..)).1
  obtain ⟨_, k0, k1, hk01, hvl, cb, wb, sc0, sc1⟩ := bSh10 sh ho
  have hb : dnb s ≤ 950 := by omega
  have e21 : (dm s).2 21 = ST 21 := I.1.1 21 (by decide) (by decide)
  have e22 : (dm s).2 22 = ST 22 := I.1.1 22 (by decide) (by decide)
  have e23 : (dm s).2 23 = ST 23 := I.1.1 23 (by decide) (by decide)
  have p0 := (zsg st I hi k0.1).2.1
  have p1 := (zsg st I hi k1.1).2.1
  obtain ⟨j1, j2, j3, j4, j5, j6, j7, j8, j9, j10, j11, j12, j13, j14⟩ := id I.2.1
  have hle := b_le I
  have hda := env.2.1
  have hda' := env.1
  have hv26 : ∀ v, 26 ≤ v → s_sc S (dl s i) p v = none := D.2.2.2.2.2.2.2.2.2.2.2.1.2 p
  have ht0 : ks s (40 * i + s_nx S (dl s i) (p + 2)) = hz_n 0 := (vir.1 _ k1.1 k1.2.1).1 k1.2.2.1
  -- bind, assign, make
  have rm := bRm_bind (v := hz_n (s_vl S (dl s i) p)) (p := hz_n (dnp s)) (a := da s (40 * i + p)) I hnb ⟨hda', hda⟩
  have I1 := bGrowR st I rm
  have u1 := bR_up (S := S) (dfs := dfs) rm I.2.2.2.2.2.2.1
  have cn1 := bCnt_grow rm 0 (by omega) cnt
  have hsub : dnb s + 1 - dnb s = 1 := by omega
  rw [hsub] at cn1
  have K1 : bStk S (bsR s (mB (dm s) (dnb s) (hz_n (s_vl S (dl s i) p)) (hz_n (dnp s)) (hz_n (da s (40 * i + p)))) (dnc s) (dnb s + 1)) ((40 * i + p) :: r) := bStk_g (s := s) rfl rfl rfl K
  have fr1 : bFr S l0 f0 (bsR s (mB (dm s) (dnb s) (hz_n (s_vl S (dl s i) p)) (hz_n (dnp s)) (hz_n (da s (40 * i + p)))) (dnc s) (dnb s + 1)) r (40 * i + p) f1 := bFr_up hle hb u1 (bDefs_of st I) (fun l _ => rfl) (fun x _ _ => Or.inr fun _ _ _ _ _ => ⟨id, id, id, fun _ _ _ => ⟨fun _ _ => id, id⟩, fun _ _ _ => id⟩) (fun _ _ => id) (fun j _ => by
    show (mB _ _ _ _ _).2 37 j = _ ∧ (mB _ _ _ _ _).2 38 j = _
    rw [mB_an _ _ _ _ _ _ (by decide) (by decide) (by decide), mB_an _ _ _ _ _ _ (by decide) (by decide) (by decide)]; exact ⟨rfl, rfl⟩) fr
  have kf1 : bKF S (bsR s (mB (dm s) (dnb s) (hz_n (s_vl S (dl s i) p)) (hz_n (dnp s)) (hz_n (da s (40 * i + p)))) (dnc s) (dnb s + 1)) (40 * i + p) f1 f2 := bKF_up u1 id (fun j _ => by
    show (mB _ _ _ _ _).2 37 j = _
    rw [mB_an _ _ _ _ _ _ (by decide) (by decide) (by decide)]) kf
  generalize hs1 : bsR s (mB (dm s) (dnb s) (hz_n (s_vl S (dl s i) p)) (hz_n (dnp s)) (hz_n (da s (40 * i + p)))) (dnc s) (dnb s + 1) = s1 at I1 u1 cn1 K1 fr1 kf1
  have hdk1 : dk s1 = dk s := by rw [← hs1]; rfl
  have hdl1 : dl s1 = dl s := by rw [← hs1]; rfl
  have hde1 : de s1 = de s := by rw [← hs1]; rfl
  have hdd1 : dd s1 = dd s := by rw [← hs1]; rfl
  have hdg1 : dg s1 = dg s := by rw [← hs1]; rfl
  have hnp1 : dnp s1 = dnp s := by rw [← hs1]; rfl
  have hnb1 : dnb s1 = dnb s + 1 := by rw [← hs1]; rfl
  have hdm1 : dm s1 = mB (dm s) (dnb s) (hz_n (s_vl S (dl s i) p)) (hz_n (dnp s)) (hz_n (da s (40 * i + p))) := by rw [← hs1]; rfl
  have hks1 : ∀ x, ks s1 x = ks s x := fun x => by show (dk s1).2.1 6 x = _; rw [hdk1]
  have hd0 : dd s1 (40 * i + (p + 1)) = none := by rw [hdd1]; exact vir.2 _ cb wb
  obtain ⟨I2, u2⟩ := bAssign st I1 (i := i) (p := p + 1) (t := 40 * i + (p + 2)) (by rw [hde1]; exact hi) (by rw [hdl1]; exact cb) (by omega) (Or.inl hd0) (by rw [hdl1, wb, hks1, hkc]; intro _; decide)
  have cn2 := bCnt_assign (t := 40 * i + (p + 2)) (ob := 0) (by rw [hde1]; omega) hd0 cn1
  have ky2 := bKidsTop (Z := fun _ => False) (Y := fun _ => False) (B := (· = 40 * i + (p + 1))) (Q := fun _ => False) st I1 K1 (by rw [hde1]; exact hi) (by rw [hdl1]; exact hcl) (fun _ => id) (fun _ h => h.elim) (fun _ h => h.elim) (fun x hx => ⟨p + 1, hx, by rw [hdl1]; exact cb, by rw [hdl1]; exact wb⟩)
  have fr2 : bFr S l0 f0 (bsD s1 (40 * i + (p + 1)) (40 * i + (p + 2))) r (40 * i + p) f1 := bFr_up (b_le I1) (by rw [hnb1]; omega) u2 (bDefs_of st I1) (fun l _ => bsD_k _ _ _ _ _ (by decide)) ky2.1 (fun _ _ => id) (fun _ _ => ⟨rfl, rfl⟩) fr1
  have kf2 : bKF S (bsD s1 (40 * i + (p + 1)) (40 * i + (p + 2))) (40 * i + p) f1 f2 := bKF_up u2 id (fun _ _ => rfl) kf1
  have K2 : bStk S (bsD s1 (40 * i + (p + 1)) (40 * i + (p + 2))) ((40 * i + p) :: r) := by
    obtain ⟨z1, z2, z3, z4, z5⟩ := K1
    have e6 : ∀ x, ks (bsD s1 (40 * i + (p + 1)) (40 * i + (p + 2))) x = ks s1 x := fun x => bsD_k _ _ _ 6 _ (by decide)
    refine ⟨z1, bSk_same (s := s1) (by funext y; exact bsD_k _ _ _ 11 _ (by decide)) z2, z3, fun x hx => ?_, fun i' p' a1 a2 => ?_⟩
    · rw [e6]; exact z4 x hx
    · rw [e6]; exact z5 i' p' a1 a2
  generalize hs2 : bsD s1 (40 * i + (p + 1)) (40 * i + (p + 2)) = s2 at I2 u2 cn2 fr2 kf2 K2
  have hdk2 : dk s2 = kA (dk s) 7 (40 * i + (p + 1)) (hz_n (40 * i + (p + 2) : Nat)) := by rw [← hs2]; show kA (dk s1) _ _ _ = _; rw [hdk1]
  have hdl2 : dl s2 = dl s := by rw [← hs2]; exact hdl1
  have hde2 : de s2 = de s := by rw [← hs2]; exact hde1
  have hdg2 : dg s2 = dg s := by rw [← hs2]; exact hdg1
  have hnp2 : dnp s2 = dnp s := by rw [← hs2]; exact hnp1
  have hnb2 : dnb s2 = dnb s + 1 := by rw [← hs2]; exact hnb1
  have hdm2 : dm s2 = dm s1 := by rw [← hs2]; rfl
  have hks2 : ∀ x, ks s2 x = ks s x := fun x => by rw [← hs2, ← hks1]; exact bsD_k _ _ _ 6 _ (by decide)
  have hdd2 : dd s2 (40 * i + (p + 1)) = some (40 * i + (p + 2)) := by rw [← hs2, bsD_d, if_pos rfl]
  have own2 : bOwn S (dl s2 i) (p + 2) := by rw [hdl2]; exact Or.inl k0.2.2.1
  have hg0 : dg s2 (40 * i + (p + 2)) = none := by rw [hdg2]; exact (vir.1 _ k0.1 k0.2.1).2
  have hk0 : ks s2 (40 * i + (p + 2)) = hz_n 0 := by rw [hks2]; exact (I.2.2.2.2.2.2.2 i _ hi k0.1).2.2 (Or.inr k0.2.2.1) (vir.1 _ k0.1 k0.2.1).2
  have u3 := bM_up (S := S) (dfs := dfs) (s := s2) (c := 40 * i + (p + 2)) (a := (dnb s : Int)) (n := 40 * dl s2 i + s_nd S (dl s2 i) (p + 2)) hg0 I2.2.2.2.2.2.2.1
  have hgr : bGrow s (bsM s2 (40 * i + (p + 2)) (dnb s : Int) (40 * dl s2 i + s_nd S (dl s2 i) (p + 2))) := by
    obtain ⟨⟨x1, x2, x3⟩, ⟨x4, x5⟩, ⟨x6, x7⟩, ⟨x8, x9⟩, x10⟩ := u1.1
    obtain ⟨⟨y1, y2, y3⟩, ⟨y4, y5⟩, ⟨y6, y7⟩, ⟨y8, y9⟩, y10⟩ := u2.1
    obtain ⟨⟨z1, z2, z3⟩, ⟨z4, z5⟩, ⟨z6, z7⟩, ⟨z8, z9⟩, z10⟩ := u3.1
    refine ⟨⟨fun c m h => z1 _ _ (y1 _ _ (x1 _ _ h)), fun c t h => z2 _ _ (y2 _ _ (x2 _ _ h)), fun c h => ?_⟩, ⟨by omega, fun j hj => ?_⟩, ⟨by omega, fun k hk => ?_⟩, ⟨by omega, fun i' hi' => ?_⟩, x10⟩
    · rw [z3 c (by rw [hdg2]; exact h), y3 c (by rw [hdg1]; exact h), x3 c h]
    · rw [z5 j (by omega), y5 j (by omega), x5 j hj]
    · obtain ⟨a1, a2, a3⟩ := x7 k hk
      obtain ⟨b1, b2, b3⟩ := y7 k (by omega)
      obtain ⟨c1, c2, c3⟩ := z7 k (by omega)
      exact ⟨by rw [c1, b1, a1], by rw [c2, b2, a2], by rw [c3, b3, a3]⟩
    · rw [z9 i' (by omega), y9 i' (by omega), x9 i' hi']
  have h343 : ∀ b, b = 34 ∨ b = 35 ∨ b = 36 → (dm (bsM s2 (40 * i + (p + 2)) (dnb s : Int) (40 * dl s2 i + s_nd S (dl s2 i) (p + 2)))).2 b (dnb s) = (mB (dm s) (dnb s) (hz_n (s_vl S (dl s i) p)) (hz_n (dnp s)) (hz_n (da s (40 * i + p)))).2 b (dnb s) := by
    intro b hb'
    rw [bsM_mn _ _ _ _ _ (by omega) (by omega) (by omega), hdm2, hdm1]
  have envq : ∀ q, (∀ v, s_sc S (dl s i) q v = if v = s_vl S (dl s i) p then some (p + 1) else s_sc S (dl s i) p v) → bEnv S (bsM s2 (40 * i + (p + 2)) (dnb s : Int) (40 * dl s2 i + s_nd S (dl s2 i) (p + 2))) i (dl s i) q (dnb s) := by
    intro q hq
    refine bEnv_bind (s := s) (x := s_vl S (dl s i) p) (b' := p + 1) (t := 40 * i + (p + 2)) (m := (dnp s : Int)) hnb hgr env ?_ ?_ ?_ ?_ hvl ?_ ?_ hv26 hq
    · show dnb s < dnb s2; omega
    · rw [h343 34 (by simp), mB_a]; simp
    · rw [h343 35 (by simp), mB_a]; simp
    · rw [h343 36 (by simp), mB_a]; simp
    · exact hdd2
    · rw [bsM_g, if_pos rfl, hnp2]
  have I3 := bMakeN st I2 (i := i) (p := p + 2) (a := (dnb s : Int)) (by rw [hde2]; exact hi) (by rw [hdl2]; exact k0.1) own2 hg0 hk0 (by omega) (by rw [hdl2, k0.2.1, hks2, hkc]; intro _; decide) (by rw [hdl2]; have := envq (p + 2) sc0; rw [hdl2] at this; exact this)
  have cn3 := bCnt_make (n := 40 * dl s2 i + s_nd S (dl s2 i) (p + 2)) (a := (dnb s : Int)) (i := i) (p := p + 2) (by rw [hde2]; exact hi) p0 (by rw [hdl2]; exact k0.1) hk0 own2 hg0 cn2
  have ky3 := bKidsTop (Z := fun _ => False) (Y := (· = 40 * i + (p + 2))) (B := fun _ => False) (Q := fun _ => False) st I2 K2 (by rw [hde2]; exact hi) (by rw [hdl2]; exact hcl) (fun _ => id) (fun _ h => h.elim) (fun x hx => ⟨p + 2, hx, by rw [hdl2]; exact k0.1, by rw [hdl2]; exact k0.2.1, by have hx' : x = 40 * i + (p + 2) := hx; rw [hx']; exact hk0⟩) (fun _ h => h.elim)
  have f37 : ∀ b, b = 37 ∨ b = 38 → (dm (bsM s2 (40 * i + (p + 2)) (dnb s : Int) (40 * dl s2 i + s_nd S (dl s2 i) (p + 2)))).2 b = (dm s2).2 b := fun b hb' => bsM_mn _ _ _ _ _ (by omega) (by omega) (by omega)
  have fr3 : bFr S l0 f0 (bsM s2 (40 * i + (p + 2)) (dnb s : Int) (40 * dl s2 i + s_nd S (dl s2 i) (p + 2))) r (40 * i + p) f1 := bFr_up (b_le I2) (by rw [hnb2]; omega) u3 (bDefs_of st I2) (fun l _ => rfl) ky3.1 ky3.2.1 (fun j _ => by rw [f37 37 (by simp), f37 38 (by simp)]; exact ⟨rfl, rfl⟩) fr2
  have kf3 : bKF S (bsM s2 (40 * i + (p + 2)) (dnb s : Int) (40 * dl s2 i + s_nd S (dl s2 i) (p + 2))) (40 * i + p) f1 f2 := bKF_up u3 ky3.2.2 (fun j _ => by rw [f37 37 (by simp)]) kf2
  have K3 : bStk S (bsM s2 (40 * i + (p + 2)) (dnb s : Int) (40 * dl s2 i + s_nd S (dl s2 i) (p + 2))) ((40 * i + p) :: r) := bStk_g (s := s2) rfl rfl rfl K2
  have env3 := envq _ sc1
  have hdm3 : dm (bsM s2 (40 * i + (p + 2)) (dnb s : Int) (40 * dl s2 i + s_nd S (dl s2 i) (p + 2))) = mS (mA (mA (mA (mB (dm s) (dnb s) (hz_n (s_vl S (dl s i) p)) (hz_n (dnp s)) (hz_n (da s (40 * i + p)))) 28 (dnp s) (hz_n 0)) 29 (dnp s) (hz_n (40 * dl s i + s_nd S (dl s i) (p + 2) : Nat))) 30 (dnp s) (hz_n (dnb s))) 15 (hz_n (dnp s + 1 : Nat)) := by
    show mS (mA (mA (mA (dm s2) 28 (dnp s2) (hz_n 0)) 29 (dnp s2) (hz_n (40 * dl s2 i + s_nd S (dl s2 i) (p + 2) : Nat))) 30 (dnp s2) (hz_n (dnb s : Int))) 15 (hz_n (dnp s2 + 1 : Nat)) = _
    rw [hdm2, hdm1, hnp2, hdl2]
  have hdg3 : dg (bsM s2 (40 * i + (p + 2)) (dnb s : Int) (40 * dl s2 i + s_nd S (dl s2 i) (p + 2))) = fun x => if x = 40 * i + (p + 2) then some (dnp s : Int) else dg s x := by
    funext x; rw [bsM_g, hnp2, hdg2]
  generalize hs3 : bsM s2 (40 * i + (p + 2)) (dnb s : Int) (40 * dl s2 i + s_nd S (dl s2 i) (p + 2)) = s3 at *
  have hdk3 : dk s3 = dk s2 := by rw [← hs3]; rfl
  have hdl3 : dl s3 = dl s := by rw [← hs3]; exact hdl2
  have hde3 : de s3 = de s := by rw [← hs3]; exact hde2
  have hnp3 : dnp s3 = dnp s + 1 := by rw [← hs3]; show dnp s2 + 1 = _; rw [hnp2]
  have hdd3 : dd s3 = dd s2 := by rw [← hs3]; rfl
  have hks3 : ∀ x, ks s3 x = ks s x := fun x => by rw [← hks2 x]; show (dk s3).2.1 6 x = _; rw [hdk3]
  -- the reference
  generalize hμ : m_evaluate (mA (mB (mS (mA (mA (mA (dm s) 28 (dnp s) (hz_n 0)) 29 (dnp s) (hz_n (40 * dl s i + s_nd S (dl s i) (p + 2) : Nat))) 30 (dnp s) (hz_n (da s (40 * i + p)))) 15 (hz_n (dnp s + 1 : Nat))) (dnb s) (hz_n (s_vl S (dl s i) p)) (hz_n (dnp s)) (hz_n (da s (40 * i + p)))) 30 (dnp s) (hz_n (dnb s))) (hz_n (40 * dl s i + s_nd S (dl s i) (s_nx S (dl s i) (p + 2)) : Nat)) (hz_n (dnb s)) = μ
  have hstep : m_step (dm s) F = some μ := by
    unfold m_step
    rw [r22, r23, zt _ (by omega), zgd_t (by omega), Int.toNat_natCast, e21, hN.2.2.2.2.2.2.2.2.1, zt (s_op S (dl s i) p) (by omega), if_neg (by omega), if_neg (by omega), if_neg (by omega), if_neg (by omega), if_neg (by omega), if_pos (by omega)]
    unfold m_let
    have ez : hz_n ((0 : Nat) : Int) = hz_n 0 := rfl
    have eo : hz_n ((1 : Nat) : Int) = hz_n 1 := rfl
    have c0 := k0.2.2.2.2 (dm s) e21 e23
    rw [ez] at c0
    have c1 := k1.2.2.2.2 (mA (mB (mS (mA (mA (mA (dm s) 28 (dnp s) (hz_n 0)) 29 (dnp s) (hz_n (40 * dl s i + s_nd S (dl s i) (p + 2) : Nat))) 30 (dnp s) (hz_n (da s (40 * i + p)))) 15 (hz_n (dnp s + 1 : Nat))) (dnb s) (hz_n (s_vl S (dl s i) p)) (hz_n (dnp s)) (hz_n (da s (40 * i + p)))) 30 (dnp s) (hz_n (dnb s)))
      (by rw [mA2n _ _ _ _ _ (by decide), mB_an _ _ _ _ _ _ (by decide) (by decide) (by decide), mS2, mA2n _ _ _ _ _ (by decide), mA2n _ _ _ _ _ (by decide), mA2n _ _ _ _ _ (by decide)]; exact e21)
      (by rw [mA2n _ _ _ _ _ (by decide), mB_an _ _ _ _ _ _ (by decide) (by decide) (by decide), mS2, mA2n _ _ _ _ _ (by decide), mA2n _ _ _ _ _ (by decide), mA2n _ _ _ _ _ (by decide)]; exact e23)
    rw [eo] at c1
    have a17 : (mS (mA (mA (mA (dm s) 28 (dnp s) (hz_n 0)) 29 (dnp s) (hz_n (40 * dl s i + s_nd S (dl s i) (p + 2) : Nat))) 30 (dnp s) (hz_n (da s (40 * i + p)))) 15 (hz_n (dnp s + 1 : Nat))).1 17 = hz_n (dnb s) := j11
    have a22 : (mS (mA (mA (mA (dm s) 28 (dnp s) (hz_n 0)) 29 (dnp s) (hz_n (40 * dl s i + s_nd S (dl s i) (p + 2) : Nat))) 30 (dnp s) (hz_n (da s (40 * i + p)))) 15 (hz_n (dnp s + 1 : Nat))).2 22 (40 * dl s i + s_nd S (dl s i) p) = hz_n (s_vl S (dl s i) p) := by
      rw [mS2, mA2n _ _ _ _ _ (by decide), mA2n _ _ _ _ _ (by decide), mA2n _ _ _ _ _ (by decide), e22]; exact hN.2.2.2.2.2.2.2.2.2.1 (by omega)
    rw [zt (40 * dl s i + s_nd S (dl s i) p) (by omega), zgd_t (by omega), c0, Option.bind_some, j9, zt (dnp s) (by omega), zgd_t (by omega), m_np j9 (by omega), a17, zt (dnb s) (by omega), zgd_t (by omega), Int.toNat_natCast, a22, zn_add, zn_sub, zn_add, zn_sub]
    have x1 : (dnp s : Int) + 1 - 1 = dnp s := by omega
    have x2 : (dnb s : Int) + 1 - 1 = dnb s := by omega
    rw [x1, x2, m_bindF a17 hnb]
    unfold m_let2
    rw [zt (dnp s) (by omega), zgd_t (by omega), Int.toNat_natCast]
    have c2 : m_child (mA (mS (mA (mA (mA (mS (mA (mA (mA (dm s) 28 (dnp s) (hz_n 0)) 29 (dnp s) (hz_n (40 * dl s i + s_nd S (dl s i) (p + 2) : Nat))) 30 (dnp s) (hz_n (da s (40 * i + p)))) 15 (hz_n (dnp s + 1 : Nat))) 34 (dnb s) (hz_n (s_vl S (dl s i) p))) 35 (dnb s) (hz_n (dnp s))) 36 (dnb s) (hz_n (da s (40 * i + p)))) 17 (hz_n (dnb s + 1 : Nat))) 30 (dnp s) (hz_n (dnb s))) F (hz_n (40 * dl s i + s_nd S (dl s i) p : Nat)) (hz_n 1) = _ := c1
    rw [c2, Option.bind_some, ← hμ]
    rfl
  have hsame : bSame (fun _ => False) s3 (bsN s3 μ) := by
    refine bsN_same ⟨?_, ?_⟩
    · rw [← hμ, hdm3]; exact ⟨rfl, rfl, rfl, rfl, rfl⟩
    · intro b b1 b2
      rw [← hμ, hdm3]
      funext x
      simp only [m_evaluate2, mS2, mA2, mB_a]
      by_cases h30 : b = 30
      · subst h30; by_cases hx : x = dnp s <;> simp [hx]
      · by_cases h36 : b = 36
        · subst h36; simp
        · by_cases h35 : b = 35
          · subst h35; simp
          · by_cases h34 : b = 34
            · subst h34; simp
            · by_cases h29 : b = 29
              · subst h29; simp
              · by_cases h28 : b = 28
                · subst h28; simp
                · simp [h30, h36, h35, h34, h29, h28]
  have h37 : ∀ b, b = 37 ∨ b = 38 ∨ (16 ≤ b ∧ b ≤ 23) → μ.2 b = (dm s3).2 b ∧ μ.2 b = (dm s).2 b := by
    intro b hb'
    rw [← hμ, hdm3, m_evaluate2, mA2n _ _ _ _ _ (by omega), mB_an _ _ _ _ _ _ (by omega) (by omega) (by omega), mS2, mA2n _ _ _ _ _ (by omega), mA2n _ _ _ _ _ (by omega), mA2n _ _ _ _ _ (by omega), mS2, mA2n _ _ _ _ _ (by omega), mA2n _ _ _ _ _ (by omega), mA2n _ _ _ _ _ (by omega), mB_an _ _ _ _ _ _ (by omega) (by omega) (by omega)]
    exact ⟨rfl, rfl⟩
  have hms : ∀ b, b ≠ 15 → b ≠ 17 → b ≠ 22 → b ≠ 23 → b ≠ 24 → μ.1 b = (dm s).1 b := by
    intro b b1 b2 b3 b4 b5
    rw [← hμ, m_evaluate1 b3 b4 b5, mA1, mB_s _ _ _ _ _ _ b2, mS1, if_neg b1]; rfl
  have hlen := bStk_len st I K (d := 40 * i + s_nx S (dl s i) (p + 2)) (by omega) ht0
  rw [g_la10 st I hi hcl ho]
  refine ⟨kPush (dk s3) (40 * i + s_nx S (dl s i) (p + 2)) (r.length + 1), ?_, bOutc_run (bRun_step h21 r22 (by omega) hstep) ?_⟩
  · rw [hdk3, hdk2]
    exact g_kA0 (by omega) (by rw [kA2n _ _ _ _ _ (by decide)]; exact ht0) K.1 hlen
  have u4 := bUp_same (S := S) (dfs := dfs) hsame I3.2.2.2.2.2.2.1
  have hb3 : dnb s3 ≤ 950 := I3.2.1.2.2.2.2.2.2.2.2.2.2.2.2.2
  refine bOutc_gh (gh' := ghs (bsN s3 μ)) (ghL_t (ghL_g hgr) (ghL_g u4.1)) ?_
  refine bDown (s := bsN s3 μ) (c := 40 * i + p) (f1 := f1) (f2 := f2) (f := f2) (i := i) (p := s_nx S (dl s i) (p + 2)) (a := (dnb s : Int)) hF st (bInv_same st I3 hsame) (bStk_same hsame rfl rfl K3) ?_ ?_ hg (bFr_same I3 (bDefs_of st I3) hsame (fun _ _ => id) (fun j _ => by
      show μ.2 37 j = _ ∧ μ.2 38 j = _
      rw [(h37 37 (by simp)).1, (h37 38 (by simp)).1]; exact ⟨rfl, rfl⟩) fr3) (bKF_same I3 hsame (fun j _ => by show μ.2 37 j = _; rw [(h37 37 (by simp)).1]) kf3) ?_ (by omega) (by show dnp s3 < 1000; omega) ?_ ?_ ?_ ?_ ?_ ?_ ?_ ?_ ?_ ?_ (bCnt_same hsame cn3)
  · refine bFix_k fx ?_ ?_ ?_ ?_ ?_ (by show (dk s3).2.2 3 = _; rw [hdk3, hdk2]; rfl)
    · intro b hb'; show (dk s3).1 b = _; rw [hdk3, hdk2, kA1]
    · intro b hb'; show (dk s3).2.1 b = _; rw [hdk3, hdk2, kA2n _ _ _ _ _ (by omega)]
    · intro b b1 b2; show μ.1 b = _; exact hms b (by omega) (by omega) (by omega) (by omega) (by omega)
    · intro b hb'; show μ.2 b = _; exact (h37 b (by omega)).2
    · intro j _; show μ.2 37 j = _ ∧ μ.2 38 j = _; rw [(h37 37 (by simp)).2, (h37 38 (by simp)).2]; exact ⟨rfl, rfl⟩
  · show (dk s3).1 5 = _; rw [hdk3, hdk2, kA1]; exact h5
  · refine Or.inr ⟨i, p, rfl, by show i < de s3; rw [hde3]; exact hi, by show s_cl S (dl s3 i) p = 1; rw [hdl3]; exact hcl, ?_⟩
    show bW1 S (bsN s3 μ) i (dl s3 i) p _ _ _
    rw [hdl3]
    refine Or.inr (Or.inr (Or.inr (Or.inr (Or.inr (Or.inr ⟨ho, rfl, ?_, rfl⟩)))))
    show dd s3 _ = _
    rw [hdd3]; exact hdd2
  · show μ.1 21 = _; rw [hms 21 (by decide) (by decide) (by decide) (by decide) (by decide)]; exact h21
  · show i < de s3; rw [hde3]; exact hi
  · show s_cl S (dl s3 i) _ = 1; rw [hdl3]; exact k1.1
  · show ks s3 _ = _; rw [hks3]; exact ht0
  · refine Or.inl ⟨?_, ?_⟩
    · show s_ro S (dl s3 i) _ = 0; rw [hdl3]; exact k1.2.2.1
    · show _ = 40 * i + s_pa S (dl s3 i) _; rw [hdl3, k1.2.1]
  · show dg s3 _ = none
    rw [hdg3]
    show (if 40 * i + s_nx S (dl s i) (p + 2) = 40 * i + (p + 2) then _ else dg s (40 * i + s_nx S (dl s i) (p + 2))) = _
    rw [if_neg (by omega)]; exact (vir.1 _ k1.1 k1.2.1).2
  · show μ.1 18 = _; rw [hms 18 (by decide) (by decide) (by decide) (by decide) (by decide)]; exact r18
  · show μ.1 22 = hz_n (40 * dl s3 i + s_nd S (dl s3 i) _ : Nat); rw [hdl3, ← hμ]; rfl
  · show μ.1 23 = _; rw [← hμ]; rfl
  · show bEnv S (bsN s3 μ) i (dl s3 i) _ _
    rw [hdl3]; exact bEnv_mono hb3 u4.1 env3

theorem zn1p (i p : Nat) : hz_n (40 * i + p : Nat) + hz_n 1 = hz_n (40 * i + (p + 1) : Nat) := zn1 _
-- back to a whole in whose place its part stands
theorem bTailR {E : Nat → Option zT} {dfs : Nat → Option Nat} {ST : Nat → Nat → Int32} {F l0 am f0 g wn wr : Nat} {S : zG} {kw : zK} {mw : zM} {s : zD} {r : List Nat} {f1 f2 i p d : Nat} {k v : Int32}
    (st : bSta E dfs ST F S) (I : bInv S dfs ST l0 am s) (K : bStk S s ((40 * i + p) :: r)) (fx : bFix kw mw f0 (dk s) (dm s)) (h5 : (dk s).1 5 = hz_n 0) (hg : ((40 * i + p) :: r).getLast? = some g) (fr : bFr S l0 f0 s r (40 * i + p) f1) (kf : bKF S s (40 * i + p) f1 f2) (hf2 : f2 ≤ 2150)
    (hi : i < de s) (hcl : s_cl S (dl s i) p = 1) (ho : 5 ≤ s_op S (dl s i) p) (hreg : bReg s (dm s) f2 k v) (vr : bVR S dfs s (ks s d) (kv s d) k v) (cnt : bCnt S s wn wr 0 (psi (dm s) k v) 0 0) (h21 : (dm s).1 21 = hz_n 0) :
    bOutc S dfs ST F l0 am f0 g wn wr kw mw (ghs s) (kKeep (dk s) (40 * i + p) r.length (ks s d) (kv s d)) (dm s) := by
  refine bRet st I K fx h5 hg fr kf hf2 hreg h21 vr ?_ cnt
  intro m i' p' a1 a2 a3 a4 a5
  exfalso
  have h1 := (zsg st I hi hcl).2.1
  have h2 := (zsg st I a2 a3).2.1
  have y1 : i' = i := by omega
  have y2 : p' = p := by omega
  subst y1; subst y2
  rcases ((I.2.2.2.2.2.2.2 i' p' hi hcl).2.1 m a5).1 with ⟨ho', _⟩ | ⟨_, ho', _⟩
  · exact a4 ho'
  · omega
theorem bW_tail {E : Nat → Option zT} {dfs : Nat → Option Nat} {ST : Nat → Nat → Int32} {F l0 am f0 g wn wr : Nat} {S : zG} {kw : zK} {mw : zM} {s : zD} {r : List Nat} {f1 f2 i p d : Nat} {k v : Int32}
    (st : bSta E dfs ST F S) (I : bInv S dfs ST l0 am s) (K : bStk S s ((40 * i + p) :: r)) (fx : bFix kw mw f0 (dk s) (dm s)) (h5 : (dk s).1 5 = hz_n 0) (hg : ((40 * i + p) :: r).getLast? = some g) (fr : bFr S l0 f0 s r (40 * i + p) f1) (kf : bKF S s (40 * i + p) f1 f2) (hf2 : f2 ≤ 2150)
    (hi : i < de s) (hcl : s_cl S (dl s i) p = 1) (hreg : bReg s (dm s) f2 k v) (vr : bVR S dfs s (ks s d) (kv s d) k v) (cnt : bCnt S s wn wr 0 (psi (dm s) k v) 0 0) (h21 : (dm s).1 21 = hz_n 0)
    (hw : (s_op S (dl s i) p = 8 ∧ ks s (40 * i + (p + 1)) = hz_n 2 ∧ ((d = 40 * i + s_nx S (dl s i) (p + 1) ∧ kv s (40 * i + (p + 1)) ≠ hz_n 0) ∨ (d = 40 * i + s_nx S (dl s i) (s_nx S (dl s i) (p + 1)) ∧ kv s (40 * i + (p + 1)) = hz_n 0)))
      ∨ (s_op S (dl s i) p = 9 ∧ d = 40 * i + s_nx S (dl s i) (p + 1) ∧ ks s (40 * i + (p + 1)) = hz_n 3)
      ∨ (s_op S (dl s i) p = 10 ∧ d = 40 * i + s_nx S (dl s i) (p + 2) ∧ dd s (40 * i + (p + 1)) = some (40 * i + (p + 2)))) :
    ∃ κ', g_lookAt (dk s) E (hz_n (40 * i + p : Nat)) = some κ' ∧ bOutc S dfs ST F l0 am f0 g wn wr kw mw (ghs s) κ' (dm s) := by
  obtain ⟨T, D⟩ := bDefs_of st I i hi
  obtain ⟨sh, hp, hi50, h6⟩ := zsg st I hi hcl
  have hx := zvr vr
  have hq40 : ∀ q, s_cl S (dl s i) q = 1 → 40 * i + q < 2000 := fun q h => (zsg st I hi h).2.2.2
  rcases hw with ⟨o, w1, w2⟩ | ⟨o, w1, w2⟩ | ⟨o, w1, w2⟩
  · obtain ⟨_, k0, k1, k2, l1, l2, _⟩ := bSh8 sh o
    have q0 := hq40 _ k0.1
    have q1 := hq40 _ k1.1
    have q2 := hq40 _ k2.1
    have hd : d < 2001 := by rcases w2 with w | w <;> omega
    refine ⟨kKeep (dk s) (40 * i + p) r.length (ks s d) (kv s d), ?_, bTailR st I K fx h5 hg fr kf hf2 hi hcl (by omega) hreg vr cnt h21⟩
    rw [g_la8 st I hi hcl o]
    unfold g_lookAtChoice
    have e1 : g_requestNumber (dk s) (hz_n (40 * i + (p + 1) : Nat)) = some (hz_n 1, dk s) := g_rNk (c := 40 * i + (p + 1)) (by omega) w1
    have e2 : g_nextPart (dk s) E (hz_n (40 * i + (p + 1) : Nat)) = some (hz_n (40 * i + s_nx S (dl s i) (p + 1) : Nat)) := g_next_s (i := i) (p := p + 1) st I (κ := dk s) rfl hi k0.1 (by omega)
    have e3 : g_nextPart (dk s) E (hz_n (40 * i + s_nx S (dl s i) (p + 1) : Nat)) = some (hz_n (40 * i + s_nx S (dl s i) (s_nx S (dl s i) (p + 1)) : Nat)) := g_next_s (i := i) (p := s_nx S (dl s i) (p + 1)) st I (κ := dk s) rfl hi k1.1 (by omega)
    rw [zn1p, e1, Option.bind_some]
    dsimp only
    rw [zn_ti (by omega), if_neg (by omega), e2, Option.bind_some, zt (40 * i + (p + 1)) (by omega), zgd_t (by omega), Int.toNat_natCast]
    rcases w2 with ⟨w, w'⟩ | ⟨w, w'⟩
    · have hne : ¬ ((dk s).2.1 7 (40 * i + (p + 1))).toInt = 0 := fun e => w' (by rw [← e, zn_of])
      rw [if_neg hne, ← w]
      exact g_kAk (by omega) (by omega) hx.1 hx.2 K.1
    · have heq : ((dk s).2.1 7 (40 * i + (p + 1))).toInt = 0 := by show (kv s (40 * i + (p + 1))).toInt = 0; rw [w']; exact zn_ti (by omega)
      rw [if_pos heq, e3, Option.bind_some, ← w]
      exact g_kAk (by omega) (by omega) hx.1 hx.2 K.1
  · obtain ⟨_, k0, k1, k2, l1, l2, _⟩ := bSh9 sh o
    have q0 := hq40 _ k0.1
    have q1 := hq40 _ k1.1
    refine ⟨kKeep (dk s) (40 * i + p) r.length (ks s d) (kv s d), ?_, bTailR st I K fx h5 hg fr kf hf2 hi hcl (by omega) hreg vr cnt h21⟩
    rw [g_la9 st I hi hcl o]
    unfold g_lookAtSplit
    have e1 : g_request (dk s) (hz_n (40 * i + (p + 1) : Nat)) = some (hz_n 1, dk s) := q_reqk (c := 40 * i + (p + 1)) (by omega) (by show ks s (40 * i + (p + 1)) ≠ _; rw [w2]; decide) (by show ks s (40 * i + (p + 1)) ≠ _; rw [w2]; decide)
    have e2 : g_nextPart (dk s) E (hz_n (40 * i + (p + 1) : Nat)) = some (hz_n (40 * i + s_nx S (dl s i) (p + 1) : Nat)) := g_next_s (i := i) (p := p + 1) st I (κ := dk s) rfl hi k0.1 (by omega)
    have w3 : ((dk s).2.1 6 (40 * i + (p + 1))).toInt = 3 := by
      have : (dk s).2.1 6 (40 * i + (p + 1)) = hz_n 3 := w2
      rw [this]; exact zn_ti (by omega)
    rw [zn1p, e1, Option.bind_some]
    dsimp only
    rw [zn_ti (by omega), if_neg (by omega), e2, Option.bind_some, zt (40 * i + (p + 1)) (by omega), zgd_t (by omega), Int.toNat_natCast, if_pos w3, ← w1]
    exact g_kAk (by omega) (by omega) hx.1 hx.2 K.1
  · obtain ⟨_, k0, k1, l1, _, cb, _⟩ := bSh10 sh o
    have q1 := hq40 _ k1.1
    obtain ⟨kv1, _, _⟩ := I.2.2.2.2.2.1 _ _ w2
    have hκ : kA (dk s) 7 (40 * i + (p + 1)) (hz_n (40 * i + (p + 2) : Nat)) = dk s := by
      refine Prod.ext rfl (Prod.ext ?_ rfl)
      funext b y
      show (kA (dk s) 7 (40 * i + (p + 1)) (hz_n (40 * i + (p + 2) : Nat))).2.1 b y = _
      rw [kA2]
      split
      · rename_i hb; subst hb
        split
        · rename_i hy; rw [hy]; exact kv1.symm
        · rfl
      · rfl
    refine ⟨kKeep (dk s) (40 * i + p) r.length (ks s d) (kv s d), ?_, bTailR st I K fx h5 hg fr kf hf2 hi hcl (by omega) hreg vr cnt h21⟩
    rw [g_la10 st I hi hcl o, hκ, ← w1]
    exact g_kAk (by omega) (by omega) hx.1 hx.2 K.1
-- a variable whose target has come
theorem bW_1 {E : Nat → Option zT} {dfs : Nat → Option Nat} {ST : Nat → Nat → Int32} {F l0 am f0 g wn wr : Nat} {S : zG} {kw : zK} {mw : zM} {s : zD} {r : List Nat} {f1 f2 i p d : Nat} {k v : Int32}
    (st : bSta E dfs ST F S) (I : bInv S dfs ST l0 am s) (K : bStk S s ((40 * i + p) :: r)) (fx : bFix kw mw f0 (dk s) (dm s)) (h5 : (dk s).1 5 = hz_n 0) (hg : ((40 * i + p) :: r).getLast? = some g) (fr : bFr S l0 f0 s r (40 * i + p) f1) (kf : bKF S s (40 * i + p) f1 f2) (hf2 : f2 ≤ 2150)
    (hi : i < de s) (hcl : s_cl S (dl s i) p = 1) (hreg : bReg s (dm s) f2 k v) (vr : bVR S dfs s (ks s d) (kv s d) k v) (cnt : bCnt S s wn wr 0 (psi (dm s) k v) 0 0) (h21 : (dm s).1 21 = hz_n 0)
    (o1 : s_op S (dl s i) p = 1) (hd : dd s (40 * i + s_bi S (dl s i) p) = some d) :
    ∃ κ', g_lookAt (dk s) E (hz_n (40 * i + p : Nat)) = some κ' ∧ bOutc S dfs ST F l0 am f0 g wn wr kw mw (ghs s) κ' (dm s) := by
  obtain ⟨sh, hp, hi50, h6⟩ := zsg st I hi hcl
  obtain ⟨kt, ht2, _⟩ := I.2.2.2.2.2.1 _ _ hd
  have hx := zvr vr
  rw [g_la1 st I hi hcl o1, kt]
  refine ⟨_, g_kAk (by omega) (by omega) hx.1 hx.2 K.1, bRet st I K fx h5 hg fr kf hf2 hreg h21 vr ?_ cnt⟩
  intro m i' p' a1 a2 a3 a4 a5
  have := (zsg st I a2 a3).2.1
  have y1 : i' = i := by omega
  have y2 : p' = p := by omega
  subst y1; subst y2
  rcases ((I.2.2.2.2.2.2.2 i' p' hi hcl).2.1 m a5).1 with ⟨ho', _⟩ | ⟨_, _, ho'⟩
  · exact absurd ho' a4
  · rcases ho' with ⟨_, t', b1, b2, b3⟩ | ⟨ho, _⟩ | ⟨ho, _⟩ | ⟨ho, _⟩
    · rw [hd] at b1
      have := Option.some.inj b1
      subst this
      obtain ⟨_, _, it, pt, et, hit, hct⟩ := I.2.2.2.2.1 d m b2
      subst et
      rcases ((I.2.2.2.2.2.2.2 it pt hit hct).2.1 m b2).2 with h | h | h
      · exact absurd h hx.1
      · exact absurd h hx.2
      · exact h
    · omega
    · omega
    · omega
-- a letter whose body has come (the root too)
theorem bW_3 {E : Nat → Option zT} {dfs : Nat → Option Nat} {ST : Nat → Nat → Int32} {F l0 am f0 g wn wr : Nat} {S : zG} {kw : zK} {mw : zM} {s : zD} {c : Nat} {r : List Nat} {f1 f2 l d : Nat} {k v : Int32}
    (st : bSta E dfs ST F S) (I : bInv S dfs ST l0 am s) (K : bStk S s (c :: r)) (fx : bFix kw mw f0 (dk s) (dm s)) (h5 : (dk s).1 5 = hz_n 0) (hg : (c :: r).getLast? = some g) (fr : bFr S l0 f0 s r c f1) (kf : bKF S s c f1 f2) (hf2 : f2 ≤ 2150) (hc2 : c < 2001)
    (hl : l < 26) (hw : c = 2000 ∨ ∃ i p, c = 40 * i + p ∧ i < de s ∧ s_cl S (dl s i) p = 1 ∧ s_op S (dl s i) p = 3 ∧ s_vl S (dl s i) p = l)
    (hreg : bReg s (dm s) f2 k v) (vr : bVR S dfs s (ks s d) (kv s d) k v) (cnt : bCnt S s wn wr 0 (psi (dm s) k v) 0 0) (h21 : (dm s).1 21 = hz_n 0) (hc : (dk s).2.1 5 l = hz_n d) (hd : d < 2000) :
    ∃ κ', g_lookAtLetter (dk s) E (hz_n c) (hz_n l) = some κ' ∧ bOutc S dfs ST F l0 am f0 g wn wr kw mw (ghs s) κ' (dm s) := by
  have hx := zvr vr
  have hle := b_le I
  rcases I.2.2.2.1 l hl with ⟨c1, c2⟩ | ⟨c0, i, q, c1, c2, c3, c4, c5, c6, c7, c8⟩
  · rw [c1] at hc; exact absurd hc.symm (zn_ne hd)
  · have e : hz_n (40 * i + 1 : Nat) = hz_n d := by rw [← c5]; exact hc
    have e' := zn_inj (by omega) (by omega) e
    have ed : d = 40 * i + 1 := by omega
    subst ed
    obtain ⟨T', DT'⟩ := bDefs_of st I i c1
    have hcl : s_cl S (dl s i) 1 = 1 := by have := DT'.2.2.2.2.2.2.2.1; rw [c2, c3] at this; rw [c2]; exact this
    have nk : ∃ k' v', bNK S dfs s (-30 - (l : Int)) k' v' ∧ bVR S dfs s (ks s (40 * i + 1)) (kv s (40 * i + 1)) k' v' := by
      rcases ((I.2.2.2.2.2.2.2 i 1 c1 hcl).2.1 _ c6).2 with h | h | ⟨k', v', nk, vr'⟩
      · exact absurd h hx.1
      · exact absurd h hx.2
      · refine ⟨k', v', ?_, vr'⟩
        rcases nk with ⟨a1, a2, z, a3, a4, a5, a6⟩ | ⟨a1, a2, _⟩ | ⟨a1, _⟩ | ⟨l', a1, a2, _⟩
        · rw [Int.toNat_natCast] at a2 a5 a6
          exact Or.inr (Or.inr (Or.inr ⟨l, hl, rfl, c0, Or.inr ⟨c3, q, z, c7, a2, a3, a4, a5, a6⟩⟩))
        · omega
        · omega
        · omega
    unfold g_lookAtLetter
    rw [g_pcn st I.1.2 hl, Option.bind_some, if_neg c0, c3, zn_ti (by omega), if_neg (by omega), if_neg (by omega), zt l (by omega), zgd_t (by omega), Int.toNat_natCast, hc, zt _ (by omega), if_neg (by omega)]
    unfold g_ll2
    rw [h5, zn_ti (by omega), if_pos rfl, zt l (by omega), zgd_t (by omega), Int.toNat_natCast, hc]
    refine ⟨_, g_kAk hc2 (by omega) hx.1 hx.2 K.1, bRet st I K fx h5 hg fr kf hf2 hreg h21 vr ?_ cnt⟩
    intro m i' p' e1 e2 e3 e4 e5
    rcases hw with h | ⟨i2, p2, a1, a2, a3, a4, a5⟩
    · have := (zsg st I e2 e3).2.2.2; omega
    · have h1 := (zsg st I e2 e3).2.1
      have h2 := (zsg st I a2 a3).2.1
      have y1 : i2 = i' := by omega
      have y2 : p2 = p' := by omega
      subst y1; subst y2
      rw [e1] at e5
      rcases ((I.2.2.2.2.2.2.2 i2 p2 e2 e3).2.1 m e5).1 with ⟨ho, _⟩ | ⟨_, _, ho⟩
      · exact absurd ho e4
      · rcases ho with ⟨ho, _⟩ | ⟨ho, _⟩ | ⟨_, em⟩ | ⟨ho, _⟩
        · omega
        · omega
        · rw [em, a5]; exact nk
        · omega

theorem zcalc {v : Nat} {a b : Int32} (h : v = 42 ∨ v = 43 ∨ v = 45 ∨ v = 60 ∨ v = 61) : g_calculate (hz_n v) a b = some (z_rekon (hz_n v) a b) := by
  unfold g_calculate z_rekon
  rw [zt v (by omega)]
  rcases h with h | h | h | h | h <;> subst h
  · simp
  · simp
  · simp
  · simp
    split
    · rw [if_neg (by omega)]
    · rw [if_pos (by omega)]
  · simp
    split <;> rfl
-- a frame is taken away
def mPop (μ : zM) (f : Nat) : zM := mS μ 18 (hz_n f)
theorem mPop_same {s : zD} {f : Nat} : bSame (fun _ => False) s (bsN s (mPop (dm s) f)) := bsN_same ⟨⟨rfl, rfl, rfl, rfl, rfl⟩, fun _ _ _ => rfl⟩
theorem mPop_fix {kw : zK} {mw : zM} {f0 f : Nat} {κ : zK} {μ : zM} (h : bFix kw mw f0 κ μ) : bFix kw mw f0 κ (mPop μ f) :=
  bFix_k h (fun _ _ => rfl) (fun _ _ => rfl) (fun b b1 b2 => by unfold mPop; rw [mS1, if_neg (by omega)]) (fun _ _ => rfl) (fun _ _ => ⟨rfl, rfl⟩)
theorem bEndB {dfs : Nat → Option Nat} {ST : Nat → Nat → Int32} {F l0 am f0 g wn wr : Nat} {S : zG} {kw : zK} {mw : zM} {s : zD} {f : Nat} (I : bInv S dfs ST l0 am s) (fx : bFix kw mw f0 (dk s) (dm s)) (run : bRun F (dm s) (mS (mPop (dm s) f) 21 (hz_n (-3)))) :
    bOutc S dfs ST F l0 am f0 g wn wr kw mw (ghs s) (kS (dk s) 5 (hz_n (-3))) (dm s) := by
  refine bEnds (κ := kS (dk s) 5 (hz_n (-3))) (z := -3) I fx (by omega) run rfl (fun b hb => by rw [kS1, if_neg hb]) (fun _ _ => rfl) rfl ?_ rfl (fun _ _ => rfl) (fun _ _ => ⟨rfl, rfl⟩)
  intro b b1 b2
  unfold mPop; rw [mS1, if_neg (by omega), mS1, if_neg (by omega)]
theorem zvr2 {S : zG} {dfs : Nat → Option Nat} {s : zD} {x w k v : Int32} (H : bVR S dfs s x w k v) : (x = hz_n 2 ↔ k = hz_n 0) ∧ (x = hz_n 3 ↔ k = hz_n 1) ∧ (x = hz_n 4 ↔ k = hz_n 2) ∧ (x = hz_n 5 ↔ k = hz_n 3) := by
  rcases H with h | h | h | h
  · rw [h.1, h.2.1]; decide
  · rw [h.1, h.2]; decide
  · rw [h.1, h.2.1]; decide
  · rw [h.1, h.2.1]; decide
theorem zkt {k : Int32} {n : Int} (hn : -2147483648 ≤ n ∧ n ≤ 2147483647) : k.toInt = n ↔ k = hz_n n :=
  ⟨fun e => by rw [← e, zn_of], fun e => by rw [e]; exact zn_ti hn⟩
-- arithmetic, the first number has come
theorem bW_71 {E : Nat → Option zT} {dfs : Nat → Option Nat} {ST : Nat → Nat → Int32} {F l0 am f0 g wn wr : Nat} {S : zG} {kw : zK} {mw : zM} {s : zD} {r : List Nat} {f1 f2 i p : Nat} {k v : Int32}
    (hF : 951 ≤ F) (st : bSta E dfs ST F S) (I : bInv S dfs ST l0 am s) (K : bStk S s ((40 * i + p) :: r)) (fx : bFix kw mw f0 (dk s) (dm s)) (h5 : (dk s).1 5 = hz_n 0) (hg : ((40 * i + p) :: r).getLast? = some g) (fr : bFr S l0 f0 s r (40 * i + p) f1) (kf : bKF S s (40 * i + p) f1 f2) (hf2 : f2 + 1 < 2150) (hn : dnp s < 1000)
    (hi : i < de s) (hcl : s_cl S (dl s i) p = 1) (hreg : bReg s (dm s) (f2 + 1) k v) (vr : bVR S dfs s (ks s (40 * i + (p + 1))) (kv s (40 * i + (p + 1))) k v) (cnt : bCnt S s wn wr 0 (psi (dm s) k v) 0 0) (h21 : (dm s).1 21 = hz_n 0)
    (o : s_op S (dl s i) p = 7) (h0 : ks s (40 * i + s_nx S (dl s i) (p + 1)) = hz_n 0) (env : bEnv S s i (dl s i) p (da s (40 * i + p))) (frm : bFrm s f2 3 (40 * dl s i + s_nd S (dl s i) p) (hz_n (da s (40 * i + p)))) :
    ∃ κ', g_lookAt (dk s) E (hz_n (40 * i + p : Nat)) = some κ' ∧ bOutc S dfs ST F l0 am f0 g wn wr kw mw (ghs s) κ' (dm s) := by
  obtain ⟨T, D⟩ := bDefs_of st I i hi
  obtain ⟨sh, hp, hi50, h6⟩ := zsg st I hi hcl
  obtain ⟨_, hvl, k0, k1, l1, sc0, sc1⟩ := bSh7 sh o
  have hN := D.2.2.2.2.2.2.2.2.2.2.2.2.2 p hcl
  have hl := (I.2.2.1 i hi).1
  have q0 := (zsg st I hi k0.1).2.2.2
  have q1 := (zsg st I hi k1.1).2.2.2
  have hx := zvr vr
  have hb : dnb s ≤ 950 := I.2.1.2.2.2.2.2.2.2.2.2.2.2.2.2
  obtain ⟨_, r18, r22, r24, r25⟩ := hreg
  have hgo := m_goF (F := F) (f := f2) (w := 3) (a := 40 * dl s i + s_nd S (dl s i) p) r18 (by omega) frm.1 frm.2 (by omega) (by omega)
  have hgo2 : m_goOn (dm s) F = m_counted (mPop (dm s) f2) F (hz_n 3) (hz_n (40 * dl s i + s_nd S (dl s i) p : Nat)) (hz_n (da s (40 * i + p))) := by
    rw [hgo]
    unfold m_go2
    have t3 : (hz_n ((3 : Nat) : Int)).toInt = 3 := zn_ti (by omega)
    rw [t3, if_neg (by omega), if_neg (by omega), if_neg (by omega), if_neg (by omega), if_neg (by omega), if_neg (by omega), if_neg (by omega)]
    rfl
  rw [g_la7 st I hi hcl o]
  unfold g_lookAtArithmetic
  rw [zn1p]
  by_cases hk : k = hz_n 0
  · have hs2 : ks s (40 * i + (p + 1)) = hz_n 2 := (zvr2 vr).1.mpr hk
    have e1 : g_requestNumber (dk s) (hz_n (40 * i + (p + 1) : Nat)) = some (hz_n 1, dk s) := g_rNk (by omega) hs2
    have e2 : g_nextPart (dk s) E (hz_n (40 * i + (p + 1) : Nat)) = some (hz_n (40 * i + s_nx S (dl s i) (p + 1) : Nat)) := g_next_s (i := i) (p := p + 1) st I (κ := dk s) rfl hi k0.1 (by omega)
    have hlen := bStk_len st I K (d := 40 * i + s_nx S (dl s i) (p + 1)) (by omega) h0
    have e3 : g_requestNumber (dk s) (hz_n (40 * i + s_nx S (dl s i) (p + 1) : Nat)) = some (hz_n 0, kPush (dk s) (40 * i + s_nx S (dl s i) (p + 1)) (r.length + 1)) := g_rN0 (by omega) h0 K.1 hlen
    refine ⟨kPush (dk s) (40 * i + s_nx S (dl s i) (p + 1)) (r.length + 1), ?_, ?_⟩
    · rw [e1, Option.bind_some]
      dsimp only
      rw [zn_ti (by omega), if_neg (by omega), e2, Option.bind_some, e3, Option.bind_some]
      dsimp only
      rw [zn_ti (by omega), if_pos rfl]
    · have hv : kv s (40 * i + (p + 1)) = v := by
        rcases vr with h | h | h | h
        · exact h.2.2
        · rw [h.2] at hk; exact absurd hk (by decide)
        · rw [h.2.1] at hk; exact absurd hk (by decide)
        · rw [h.2.1] at hk; exact absurd hk (by decide)
      have hμ : m_goOn (dm s) F = some (mDn (mPop (dm s) f2) f2 4 (40 * dl s i + s_nd S (dl s i) p) v (40 * dl s i + s_nd S (dl s i) (s_nx S (dl s i) (p + 1))) (hz_n (da s (40 * i + p)))) := by
        rw [hgo2]
        unfold m_counted
        have a24 : (mPop (dm s) f2).1 24 = k := r24
        have a25 : (mPop (dm s) f2).1 25 = v := r25
        have a18 : (mPop (dm s) f2).1 18 = hz_n f2 := rfl
        have t3 : (hz_n 3).toInt = 3 := zn_ti (by omega)
        have t0 : (hz_n 0).toInt = 0 := zn_ti (by omega)
        rw [a24, hk, t0, if_pos rfl, t3, if_neg (by omega), if_pos rfl, a18, zt f2 (by omega), zgd_t (by omega), a25]
        have e4 : m_stack (mPop (dm s) f2) (hz_n 4) (hz_n (40 * dl s i + s_nd S (dl s i) p : Nat)) v = mS (mA (mA (mPop (dm s) f2) 37 f2 (hz_n (4096 * 4 + (40 * dl s i + s_nd S (dl s i) p) : Nat))) 38 f2 v) 18 (hz_n (f2 + 1 : Nat)) := m_stF (w := 4) a18 (by omega) (by omega) (by omega)
        have hch := k1.2.2.2.2 (mS (mA (mA (mPop (dm s) f2) 37 f2 (hz_n (4096 * 4 + (40 * dl s i + s_nd S (dl s i) p) : Nat))) 38 f2 v) 18 (hz_n (f2 + 1 : Nat))) (by rw [mS2, mA2n _ _ _ _ _ (by decide), mA2n _ _ _ _ _ (by decide)]; exact I.1.1 21 (by decide) (by decide)) (by rw [mS2, mA2n _ _ _ _ _ (by decide), mA2n _ _ _ _ _ (by decide)]; exact I.1.1 23 (by decide) (by decide))
        have eo : hz_n ((1 : Nat) : Int) = hz_n 1 := rfl
        rw [eo] at hch
        rw [e4, hch, Option.bind_some]
        rfl
      refine bOutc_run (bRun_go h21 r22 r18 (by omega) hμ) ?_
      have hsame := mPop_same (s := s) (f := f2)
      have u := bUp_same (S := S) (dfs := dfs) hsame I.2.2.2.2.2.2.1
      refine bDn (s := bsN s (mPop (dm s) f2)) (w := 4) (q := s_nx S (dl s i) (p + 1)) (j := 1) (b := v) (a := da s (40 * i + p)) hF st (bInv_same st I hsame) (bStk_same hsame rfl rfl K) (mPop_fix fx) h5 hg (bFr_same I (bDefs_of st I) hsame (fun _ _ => id) (fun _ _ => ⟨rfl, rfl⟩) fr) (bKF_same I hsame (fun _ _ => rfl) kf) hf2 hn h21 hi hcl k1 h0 (bEnv_mono hb u.1 (bEnv_sc sc1 env)) ?_ rfl ?_
      · have hps : psi (dm s) k v = 0 := by unfold psi; rw [hk, zn_ti (by omega)]; simp
        rw [hps] at cnt
        exact bCnt_same hsame cnt
      · intro hfm
        refine Or.inr (Or.inr (Or.inr (Or.inl ⟨o, Or.inr ⟨rfl, hs2, rfl, ?_⟩⟩)))
        have hfm' := hfm
        rw [← hv] at hfm'
        rw [← hv]
        exact hfm'
  · have hs2 : ks s (40 * i + (p + 1)) ≠ hz_n 2 := fun e => hk ((zvr2 vr).1.mp e)
    have e1 : g_requestNumber (dk s) (hz_n (40 * i + (p + 1) : Nat)) = some (hz_n 0, kS (dk s) 5 (hz_n (-3))) := g_rNb (by omega) hx.1 hx.2 hs2
    refine ⟨kS (dk s) 5 (hz_n (-3)), ?_, ?_⟩
    · rw [e1, Option.bind_some]
      dsimp only
      rw [zn_ti (by omega), if_pos rfl]
    · refine bEndB (f := f2) I fx (bRun_go h21 r22 r18 (by omega) ?_)
      rw [hgo2]
      unfold m_counted
      have a24 : (mPop (dm s) f2).1 24 = k := r24
      rw [a24, if_neg (fun e => hk ((zkt (by omega)).mp e))]
-- arithmetic, the second number has come
theorem bW_72 {E : Nat → Option zT} {dfs : Nat → Option Nat} {ST : Nat → Nat → Int32} {F l0 am f0 g wn wr : Nat} {S : zG} {kw : zK} {mw : zM} {s : zD} {r : List Nat} {f1 f2 i p : Nat} {k v : Int32}
    (st : bSta E dfs ST F S) (I : bInv S dfs ST l0 am s) (K : bStk S s ((40 * i + p) :: r)) (fx : bFix kw mw f0 (dk s) (dm s)) (h5 : (dk s).1 5 = hz_n 0) (hg : ((40 * i + p) :: r).getLast? = some g) (fr : bFr S l0 f0 s r (40 * i + p) f1) (kf : bKF S s (40 * i + p) f1 f2) (hf2 : f2 + 1 < 2150)
    (hi : i < de s) (hcl : s_cl S (dl s i) p = 1) (hreg : bReg s (dm s) (f2 + 1) k v) (vr : bVR S dfs s (ks s (40 * i + s_nx S (dl s i) (p + 1))) (kv s (40 * i + s_nx S (dl s i) (p + 1))) k v) (cnt : bCnt S s wn wr 0 (psi (dm s) k v) 0 0) (h21 : (dm s).1 21 = hz_n 0)
    (o : s_op S (dl s i) p = 7) (hs2 : ks s (40 * i + (p + 1)) = hz_n 2) (frm : bFrm s f2 4 (40 * dl s i + s_nd S (dl s i) p) (kv s (40 * i + (p + 1)))) :
    ∃ κ', g_lookAt (dk s) E (hz_n (40 * i + p : Nat)) = some κ' ∧ bOutc S dfs ST F l0 am f0 g wn wr kw mw (ghs s) κ' (dm s) := by
  obtain ⟨T, D⟩ := bDefs_of st I i hi
  obtain ⟨sh, hp, hi50, h6⟩ := zsg st I hi hcl
  obtain ⟨_, hvl, k0, k1, l1, sc0, sc1⟩ := bSh7 sh o
  have hN := D.2.2.2.2.2.2.2.2.2.2.2.2.2 p hcl
  have hl := (I.2.2.1 i hi).1
  have q0 := (zsg st I hi k0.1).2.2.2
  have q1 := (zsg st I hi k1.1).2.2.2
  have hx := zvr vr
  obtain ⟨_, r18, r22, r24, r25⟩ := hreg
  have hgo2 : m_goOn (dm s) F = m_counted (mPop (dm s) f2) F (hz_n 4) (hz_n (40 * dl s i + s_nd S (dl s i) p : Nat)) (kv s (40 * i + (p + 1))) := by
    rw [m_goF (F := F) (f := f2) (w := 4) (a := 40 * dl s i + s_nd S (dl s i) p) r18 (by omega) frm.1 frm.2 (by omega) (by omega)]
    unfold m_go2
    have t3 : (hz_n ((4 : Nat) : Int)).toInt = 4 := zn_ti (by omega)
    rw [t3, if_neg (by omega), if_neg (by omega), if_neg (by omega), if_neg (by omega), if_neg (by omega), if_neg (by omega), if_neg (by omega)]
    rfl
  have e1 : g_requestNumber (dk s) (hz_n (40 * i + (p + 1) : Nat)) = some (hz_n 1, dk s) := g_rNk (by omega) hs2
  have e2 : g_nextPart (dk s) E (hz_n (40 * i + (p + 1) : Nat)) = some (hz_n (40 * i + s_nx S (dl s i) (p + 1) : Nat)) := g_next_s (i := i) (p := p + 1) st I (κ := dk s) rfl hi k0.1 (by omega)
  rw [g_la7 st I hi hcl o]
  unfold g_lookAtArithmetic
  rw [zn1p, e1, Option.bind_some]
  dsimp only
  rw [zn_ti (by omega), if_neg (by omega), e2, Option.bind_some]
  by_cases hk : k = hz_n 0
  · have hs3 : ks s (40 * i + s_nx S (dl s i) (p + 1)) = hz_n 2 := (zvr2 vr).1.mpr hk
    have e3 : g_requestNumber (dk s) (hz_n (40 * i + s_nx S (dl s i) (p + 1) : Nat)) = some (hz_n 1, dk s) := g_rNk (by omega) hs3
    have hv : kv s (40 * i + s_nx S (dl s i) (p + 1)) = v := by
      rcases vr with h | h | h | h
      · exact h.2.2
      · rw [h.2] at hk; exact absurd hk (by decide)
      · rw [h.2.1] at hk; exact absurd hk (by decide)
      · rw [h.2.1] at hk; exact absurd hk (by decide)
    refine ⟨kKeep (dk s) (40 * i + p) r.length (hz_n 2) (z_rekon (hz_n (s_vl S (dl s i) p)) (kv s (40 * i + (p + 1))) v), ?_, ?_⟩
    · rw [e3, Option.bind_some]
      dsimp only
      rw [zn_ti (by omega), if_neg (by omega), zt (40 * i + (p + 1)) (by omega), zgd_t (by omega), zt (40 * i + s_nx S (dl s i) (p + 1)) (by omega), zgd_t (by omega), Int.toNat_natCast, Int.toNat_natCast, zcalc hvl, Option.bind_some]
      rw [← hv]
      exact q_keep (by omega) K.1
    · have hμ : m_goOn (dm s) F = some (m_found (mPop (dm s) f2) (hz_n 0) (z_rekon (hz_n (s_vl S (dl s i) p)) (kv s (40 * i + (p + 1))) v)) := by
        rw [hgo2]
        unfold m_counted
        have a24 : (mPop (dm s) f2).1 24 = k := r24
        have a25 : (mPop (dm s) f2).1 25 = v := r25
        have a22 : (mPop (dm s) f2).2 22 = ST 22 := I.1.1 22 (by decide) (by decide)
        have t4 : (hz_n 4).toInt = 4 := zn_ti (by omega)
        have t0 : (hz_n 0).toInt = 0 := zn_ti (by omega)
        rw [a24, hk, t0, if_pos rfl, t4, if_neg (by omega), if_neg (by omega), zt _ (by omega), zgd_t (by omega), Int.toNat_natCast, a22, a25, hN.2.2.2.2.2.2.2.2.2.1 (by omega)]
      refine bOutc_run (bRun_go h21 r22 r18 (by omega) hμ) ?_
      have hsame : bSame (fun _ => False) s (bsN s (m_found (mPop (dm s) f2) (hz_n 0) (z_rekon (hz_n (s_vl S (dl s i) p)) (kv s (40 * i + (p + 1))) v))) := bsN_same ⟨⟨rfl, rfl, rfl, rfl, rfl⟩, fun _ _ _ => rfl⟩
      refine bRet (s := bsN s (m_found (mPop (dm s) f2) (hz_n 0) (z_rekon (hz_n (s_vl S (dl s i) p)) (kv s (40 * i + (p + 1))) v))) (k := hz_n 0) st (bInv_same st I hsame) (bStk_same hsame rfl rfl K) (bFix_found (mPop_fix fx)) h5 hg (bFr_same I (bDefs_of st I) hsame (fun _ _ => id) (fun _ _ => ⟨rfl, rfl⟩) fr) (bKF_same I hsame (fun _ _ => rfl) kf) (by omega) ⟨rfl, rfl, rfl, rfl, rfl⟩ h21 (Or.inl ⟨rfl, rfl, rfl⟩) ?_ ?_
      · intro m i' p' a1 a2 a3 a4 a5
        exfalso
        have h2 := (zsg st I (show i' < de s from a2) a3).2.1
        have y1 : i' = i := by omega
        have y2 : p' = p := by omega
        subst y1; subst y2
        rcases ((I.2.2.2.2.2.2.2 i' p' hi hcl).2.1 m a5).1 with ⟨ho', _⟩ | ⟨_, ho', _⟩
        · exact a4 ho'
        · omega
      · have hps : psi (dm s) k v = 0 := by unfold psi; rw [hk, zn_ti (by omega)]; simp
        rw [hps] at cnt
        exact bCnt_ps (Nat.zero_le _) (Nat.le_refl _) (bCnt_same hsame cnt)
  · have hs3 : ks s (40 * i + s_nx S (dl s i) (p + 1)) ≠ hz_n 2 := fun e => hk ((zvr2 vr).1.mp e)
    have e3 : g_requestNumber (dk s) (hz_n (40 * i + s_nx S (dl s i) (p + 1) : Nat)) = some (hz_n 0, kS (dk s) 5 (hz_n (-3))) := g_rNb (by omega) hx.1 hx.2 hs3
    refine ⟨kS (dk s) 5 (hz_n (-3)), ?_, ?_⟩
    · rw [e3, Option.bind_some]
      dsimp only
      rw [zn_ti (by omega), if_pos rfl]
    · refine bEndB (f := f2) I fx (bRun_go h21 r22 r18 (by omega) ?_)
      rw [hgo2]
      unfold m_counted
      have a24 : (mPop (dm s) f2).1 24 = k := r24
      rw [a24, if_neg (fun e => hk ((zkt (by omega)).mp e))]

-- from a popped frame down to a part, no frame put
theorem bDn0 {E : Nat → Option zT} {dfs : Nat → Option Nat} {ST : Nat → Nat → Int32} {F l0 am f0 g wn wr : Nat} {S : zG} {kw : zK} {mw : zM} {s : zD} {r : List Nat} {f1 f2 i p q j : Nat} {a : Int}
    (hF : 951 ≤ F) (st : bSta E dfs ST F S) (I : bInv S dfs ST l0 am s) (K : bStk S s ((40 * i + p) :: r)) (fx : bFix kw mw f0 (dk s) (dm s)) (h5 : (dk s).1 5 = hz_n 0) (hg : ((40 * i + p) :: r).getLast? = some g) (fr : bFr S l0 f0 s r (40 * i + p) f1) (kf : bKF S s (40 * i + p) f1 f2) (hf2 : f2 + 1 < 2150) (hn : dnp s < 1000)
    (h21 : (dm s).1 21 = hz_n 0) (hi : i < de s) (hcl : s_cl S (dl s i) p = 1) (kid : bKid ST F S (dl s i) p j q 0) (h0 : ks s (40 * i + q) = hz_n 0) (env : bEnv S s i (dl s i) q a) (cnt : bCnt S s wn wr 0 0 0 0)
    (wt : bW1 S (bsN s (m_evaluate (mPop (dm s) f2) (hz_n (40 * dl s i + s_nd S (dl s i) q : Nat)) (hz_n a))) i (dl s i) p (40 * i + q) f2 f2) :
    bOutc S dfs ST F l0 am f0 g wn wr kw mw (ghs s) (kPush (dk s) (40 * i + q) (r.length + 1)) (m_evaluate (mPop (dm s) f2) (hz_n (40 * dl s i + s_nd S (dl s i) q : Nat)) (hz_n a)) := by
  have hb : dnb s ≤ 950 := I.2.1.2.2.2.2.2.2.2.2.2.2.2.2.2
  have hsame : bSame (fun _ => False) s (bsN s (m_evaluate (mPop (dm s) f2) (hz_n (40 * dl s i + s_nd S (dl s i) q : Nat)) (hz_n a))) := bsN_same ⟨⟨rfl, rfl, rfl, rfl, rfl⟩, fun _ _ _ => rfl⟩
  have u := bUp_same (S := S) (dfs := dfs) hsame I.2.2.2.2.2.2.1
  exact bDown (s := bsN s (m_evaluate (mPop (dm s) f2) (hz_n (40 * dl s i + s_nd S (dl s i) q : Nat)) (hz_n a))) (c := 40 * i + p) (f1 := f1) (f2 := f2) (f := f2) (i := i) (p := q) (a := a) hF st (bInv_same st I hsame) (bStk_same hsame rfl rfl K) (bFix_eval (mPop_fix fx)) h5 hg (bFr_same I (bDefs_of st I) hsame (fun _ _ => id) (fun _ _ => ⟨rfl, rfl⟩) fr) (bKF_same I hsame (fun _ _ => rfl) kf)
    (Or.inr ⟨i, p, rfl, hi, hcl, wt⟩) (by omega) hn h21 hi kid.1 h0 (Or.inl ⟨kid.2.2.1, by show _ = 40 * i + s_pa S (dl s i) q; rw [kid.2.1]⟩) (bDir_g st I hi kid.1 kid.2.2.1) rfl rfl rfl (bEnv_mono hb u.1 env) (bCnt_same hsame cnt)
-- a choice, its condition has come
theorem bW_81 {E : Nat → Option zT} {dfs : Nat → Option Nat} {ST : Nat → Nat → Int32} {F l0 am f0 g wn wr : Nat} {S : zG} {kw : zK} {mw : zM} {s : zD} {r : List Nat} {f1 f2 i p : Nat} {k v : Int32}
    (hF : 951 ≤ F) (st : bSta E dfs ST F S) (I : bInv S dfs ST l0 am s) (K : bStk S s ((40 * i + p) :: r)) (fx : bFix kw mw f0 (dk s) (dm s)) (h5 : (dk s).1 5 = hz_n 0) (hg : ((40 * i + p) :: r).getLast? = some g) (fr : bFr S l0 f0 s r (40 * i + p) f1) (kf : bKF S s (40 * i + p) f1 f2) (hf2 : f2 + 1 < 2150) (hn : dnp s < 1000)
    (hi : i < de s) (hcl : s_cl S (dl s i) p = 1) (hreg : bReg s (dm s) (f2 + 1) k v) (vr : bVR S dfs s (ks s (40 * i + (p + 1))) (kv s (40 * i + (p + 1))) k v) (cnt : bCnt S s wn wr 0 (psi (dm s) k v) 0 0) (h21 : (dm s).1 21 = hz_n 0)
    (o : s_op S (dl s i) p = 8) (h0 : ks s (40 * i + s_nx S (dl s i) (p + 1)) = hz_n 0) (h1 : ks s (40 * i + s_nx S (dl s i) (s_nx S (dl s i) (p + 1))) = hz_n 0) (env : bEnv S s i (dl s i) p (da s (40 * i + p))) (frm : bFrm s f2 5 (40 * dl s i + s_nd S (dl s i) p) (hz_n (da s (40 * i + p)))) :
    ∃ κ', g_lookAt (dk s) E (hz_n (40 * i + p : Nat)) = some κ' ∧ bOutc S dfs ST F l0 am f0 g wn wr kw mw (ghs s) κ' (dm s) := by
  obtain ⟨T, D⟩ := bDefs_of st I i hi
  obtain ⟨sh, hp, hi50, h6⟩ := zsg st I hi hcl
  obtain ⟨_, k0, k1, k2, l1, l2, sc0, sc1, sc2⟩ := bSh8 sh o
  have hN := D.2.2.2.2.2.2.2.2.2.2.2.2.2 p hcl
  have hl := (I.2.2.1 i hi).1
  have q0 := (zsg st I hi k0.1).2.2.2
  have q1 := (zsg st I hi k1.1).2.2.2
  have q2 := (zsg st I hi k2.1).2.2.2
  have hx := zvr vr
  obtain ⟨_, r18, r22, r24, r25⟩ := hreg
  have hgo2 : m_goOn (dm s) F = m_counted (mPop (dm s) f2) F (hz_n 5) (hz_n (40 * dl s i + s_nd S (dl s i) p : Nat)) (hz_n (da s (40 * i + p))) := by
    rw [m_goF (F := F) (f := f2) (w := 5) (a := 40 * dl s i + s_nd S (dl s i) p) r18 (by omega) frm.1 frm.2 (by omega) (by omega)]
    unfold m_go2
    have t3 : (hz_n ((5 : Nat) : Int)).toInt = 5 := zn_ti (by omega)
    rw [t3, if_neg (by omega), if_neg (by omega), if_neg (by omega), if_neg (by omega), if_neg (by omega), if_neg (by omega), if_neg (by omega)]
    rfl
  rw [g_la8 st I hi hcl o]
  unfold g_lookAtChoice
  rw [zn1p]
  by_cases hk : k = hz_n 0
  · have hs2 : ks s (40 * i + (p + 1)) = hz_n 2 := (zvr2 vr).1.mpr hk
    have hv : kv s (40 * i + (p + 1)) = v := by
      rcases vr with h | h | h | h
      · exact h.2.2
      · rw [h.2] at hk; exact absurd hk (by decide)
      · rw [h.2.1] at hk; exact absurd hk (by decide)
      · rw [h.2.1] at hk; exact absurd hk (by decide)
    have hps : psi (dm s) k v = 0 := by unfold psi; rw [hk, zn_ti (by omega)]; simp
    rw [hps] at cnt
    have e1 : g_requestNumber (dk s) (hz_n (40 * i + (p + 1) : Nat)) = some (hz_n 1, dk s) := g_rNk (by omega) hs2
    have e2 : g_nextPart (dk s) E (hz_n (40 * i + (p + 1) : Nat)) = some (hz_n (40 * i + s_nx S (dl s i) (p + 1) : Nat)) := g_next_s (i := i) (p := p + 1) st I (κ := dk s) rfl hi k0.1 (by omega)
    have e3 : g_nextPart (dk s) E (hz_n (40 * i + s_nx S (dl s i) (p + 1) : Nat)) = some (hz_n (40 * i + s_nx S (dl s i) (s_nx S (dl s i) (p + 1)) : Nat)) := g_next_s (i := i) (p := s_nx S (dl s i) (p + 1)) st I (κ := dk s) rfl hi k1.1 (by omega)
    have hlen := bStk_len st I K (d := 40 * i + s_nx S (dl s i) (p + 1)) (by omega) h0
    have a24 : (mPop (dm s) f2).1 24 = k := r24
    have a25 : (mPop (dm s) f2).1 25 = v := r25
    have t5 : (hz_n 5).toInt = 5 := zn_ti (by omega)
    have t0 : (hz_n 0).toInt = 0 := zn_ti (by omega)
    have c1 := k1.2.2.2.2 (mPop (dm s) f2) (I.1.1 21 (by decide) (by decide)) (I.1.1 23 (by decide) (by decide))
    have c2 := k2.2.2.2.2 (mPop (dm s) f2) (I.1.1 21 (by decide) (by decide)) (I.1.1 23 (by decide) (by decide))
    have eo : hz_n ((1 : Nat) : Int) = hz_n 1 := rfl
    have et : hz_n ((2 : Nat) : Int) = hz_n 2 := rfl
    rw [eo] at c1
    rw [et] at c2
    rw [e1, Option.bind_some]
    dsimp only
    rw [zn_ti (by omega), if_neg (by omega), e2, Option.bind_some, zt (40 * i + (p + 1)) (by omega), zgd_t (by omega), Int.toNat_natCast]
    have hv7 : (dk s).2.1 7 (40 * i + (p + 1)) = v := hv
    rw [hv7]
    by_cases hz : v.toInt = 0
    · rw [if_pos hz, e3, Option.bind_some]
      refine ⟨_, g_kA0 (by omega) h1 K.1 hlen, ?_⟩
      have hμ : m_goOn (dm s) F = some (m_evaluate (mPop (dm s) f2) (hz_n (40 * dl s i + s_nd S (dl s i) (s_nx S (dl s i) (s_nx S (dl s i) (p + 1))) : Nat)) (hz_n (da s (40 * i + p)))) := by
        rw [hgo2]
        unfold m_counted
        rw [a24, hk, t0, if_pos rfl, t5, if_pos rfl, a25, if_pos hz, c2, Option.bind_some]
      refine bOutc_run (bRun_go h21 r22 r18 (by omega) hμ) ?_
      exact bDn0 hF st I K fx h5 hg fr kf hf2 hn h21 hi hcl k2 h1 (bEnv_sc sc2 env) cnt (Or.inr (Or.inr (Or.inr (Or.inr (Or.inl ⟨o, Or.inr ⟨hs2, rfl, Or.inr ⟨rfl, by show kv s _ = _; rw [hv]; exact (zkt (by omega)).mp hz⟩⟩⟩)))))
    · rw [if_neg hz]
      refine ⟨_, g_kA0 (by omega) h0 K.1 hlen, ?_⟩
      have hμ : m_goOn (dm s) F = some (m_evaluate (mPop (dm s) f2) (hz_n (40 * dl s i + s_nd S (dl s i) (s_nx S (dl s i) (p + 1)) : Nat)) (hz_n (da s (40 * i + p)))) := by
        rw [hgo2]
        unfold m_counted
        rw [a24, hk, t0, if_pos rfl, t5, if_pos rfl, a25, if_neg hz, c1, Option.bind_some]
      refine bOutc_run (bRun_go h21 r22 r18 (by omega) hμ) ?_
      exact bDn0 hF st I K fx h5 hg fr kf hf2 hn h21 hi hcl k1 h0 (bEnv_sc sc1 env) cnt (Or.inr (Or.inr (Or.inr (Or.inr (Or.inl ⟨o, Or.inr ⟨hs2, rfl, Or.inl ⟨rfl, by show kv s _ ≠ _; rw [hv]; exact fun e => hz ((zkt (by omega)).mpr e)⟩⟩⟩)))))
  · have hs2 : ks s (40 * i + (p + 1)) ≠ hz_n 2 := fun e => hk ((zvr2 vr).1.mp e)
    have e1 : g_requestNumber (dk s) (hz_n (40 * i + (p + 1) : Nat)) = some (hz_n 0, kS (dk s) 5 (hz_n (-3))) := g_rNb (by omega) hx.1 hx.2 hs2
    refine ⟨kS (dk s) 5 (hz_n (-3)), ?_, ?_⟩
    · rw [e1, Option.bind_some]
      dsimp only
      rw [zn_ti (by omega), if_pos rfl]
    · refine bEndB (f := f2) I fx (bRun_go h21 r22 r18 (by omega) ?_)
      rw [hgo2]
      unfold m_counted
      have a24 : (mPop (dm s) f2).1 24 = k := r24
      rw [a24, if_neg (fun e => hk ((zkt (by omega)).mp e))]
-- a value written again stays
theorem kA_id {κ : zK} {a j : Nat} {x : Int32} (h : κ.2.1 a j = x) : kA κ a j x = κ := by
  refine Prod.ext rfl (Prod.ext ?_ rfl)
  funext b y
  show (kA κ a j x).2.1 b y = _
  rw [kA2]
  split
  · rename_i hb; subst hb
    split
    · rename_i hy; rw [hy]; exact h.symm
    · rfl
  · rfl
-- a split's third part has come
theorem bW_93 {E : Nat → Option zT} {dfs : Nat → Option Nat} {ST : Nat → Nat → Int32} {F l0 am f0 g wn wr : Nat} {S : zG} {kw : zK} {mw : zM} {s : zD} {r : List Nat} {f1 f2 i p i' p' : Nat} {k v : Int32} {a b : Int}
    (st : bSta E dfs ST F S) (I : bInv S dfs ST l0 am s) (K : bStk S s ((40 * i + p) :: r)) (fx : bFix kw mw f0 (dk s) (dm s)) (h5 : (dk s).1 5 = hz_n 0) (hg : ((40 * i + p) :: r).getLast? = some g) (fr : bFr S l0 f0 s r (40 * i + p) f1) (kf : bKF S s (40 * i + p) f1 f2) (hf2 : f2 ≤ 2150)
    (hi : i < de s) (hcl : s_cl S (dl s i) p = 1) (hreg : bReg s (dm s) f2 k v) (vr : bVR S dfs s (ks s (40 * i + s_nx S (dl s i) (s_nx S (dl s i) (p + 1)))) (kv s (40 * i + s_nx S (dl s i) (s_nx S (dl s i) (p + 1)))) k v) (cnt : bCnt S s wn wr 0 (psi (dm s) k v) 0 0) (h21 : (dm s).1 21 = hz_n 0)
    (o : s_op S (dl s i) p = 9) (w2 : ks s (40 * i + (p + 1)) = hz_n 4) (b1 : kv s (40 * i + (p + 1)) = hz_n (40 * i' + p' : Nat)) (b2 : bPar S s i' p' a b)
    (b3 : dd s (40 * i + (s_nx S (dl s i) (s_nx S (dl s i) (p + 1)) - 2)) = some (40 * i' + (p' + 1))) (b4 : dd s (40 * i + (s_nx S (dl s i) (s_nx S (dl s i) (p + 1)) - 1)) = some (40 * i' + s_nx S (dl s i') (p' + 1))) :
    ∃ κ', g_lookAt (dk s) E (hz_n (40 * i + p : Nat)) = some κ' ∧ bOutc S dfs ST F l0 am f0 g wn wr kw mw (ghs s) κ' (dm s) := by
  obtain ⟨sh, hp, hi50, h6⟩ := zsg st I hi hcl
  obtain ⟨_, k0, k1, k2, l1, l2, _⟩ := bSh9 sh o
  have q0 := (zsg st I hi k0.1).2.2.2
  have q1 := (zsg st I hi k1.1).2.2.2
  have q2 := (zsg st I hi k2.1).2.2.2
  have hx := zvr vr
  obtain ⟨sh', hp', hi50', h6'⟩ := zsg st I b2.1 b2.2.1
  obtain ⟨_, k0', k1', _, _, l1'⟩ := bSh5 sh' b2.2.2.1
  have q0' := (zsg st I b2.1 k0'.1).2.2.2
  have v3 := (I.2.2.2.2.2.1 _ _ b3).1
  have v4 := (I.2.2.2.2.2.1 _ _ b4).1
  refine ⟨kKeep (dk s) (40 * i + p) r.length _ _, ?_, bTailR st I K fx h5 hg fr kf hf2 hi hcl (by omega) hreg vr cnt h21⟩
  rw [g_la9 st I hi hcl o]
  unfold g_lookAtSplit
  have e1 : g_request (dk s) (hz_n (40 * i + (p + 1) : Nat)) = some (hz_n 1, dk s) := q_reqk (c := 40 * i + (p + 1)) (by omega) (by show ks s (40 * i + (p + 1)) ≠ _; rw [w2]; decide) (by show ks s (40 * i + (p + 1)) ≠ _; rw [w2]; decide)
  have e2 : g_nextPart (dk s) E (hz_n (40 * i + (p + 1) : Nat)) = some (hz_n (40 * i + s_nx S (dl s i) (p + 1) : Nat)) := g_next_s (i := i) (p := p + 1) st I (κ := dk s) rfl hi k0.1 (by omega)
  have e3 : g_nextPart (dk s) E (hz_n (40 * i + s_nx S (dl s i) (p + 1) : Nat)) = some (hz_n (40 * i + s_nx S (dl s i) (s_nx S (dl s i) (p + 1)) : Nat)) := g_next_s (i := i) (p := s_nx S (dl s i) (p + 1)) st I (κ := dk s) rfl hi k1.1 (by omega)
  have w3 : ((dk s).2.1 6 (40 * i + (p + 1))).toInt = 4 := by
    have : (dk s).2.1 6 (40 * i + (p + 1)) = hz_n 4 := w2
    rw [this]; exact zn_ti (by omega)
  rw [zn1p, e1, Option.bind_some]
  dsimp only
  rw [zn_ti (by omega), if_neg (by omega), e2, Option.bind_some, zt (40 * i + (p + 1)) (by omega), zgd_t (by omega), Int.toNat_natCast, w3, if_neg (by omega), if_pos rfl, e3, Option.bind_some]
  unfold g_sp2 g_head g_tail
  have hb1 : (dk s).2.1 7 (40 * i + (p + 1)) = hz_n (40 * i' + p' : Nat) := b1
  have hm2 : hz_n (40 * i + s_nx S (dl s i) (s_nx S (dl s i) (p + 1)) : Nat) - hz_n 2 = hz_n (40 * i + (s_nx S (dl s i) (s_nx S (dl s i) (p + 1)) - 2) : Nat) := by rw [zn_sub]; congr 1; omega
  have hm1 : hz_n (40 * i + s_nx S (dl s i) (s_nx S (dl s i) (p + 1)) : Nat) - hz_n 1 = hz_n (40 * i + (s_nx S (dl s i) (s_nx S (dl s i) (p + 1)) - 1) : Nat) := by rw [zn_sub]; congr 1; omega
  have e4 : g_nextPart (dk s) E (hz_n (40 * i' + (p' + 1) : Nat)) = some (hz_n (40 * i' + s_nx S (dl s i') (p' + 1) : Nat)) := g_next_s (i := i') (p := p' + 1) st I (κ := dk s) rfl b2.1 k0'.1 (by omega)
  rw [zn1p, zt (40 * i + (p + 1)) (by omega), zgd_t (by omega), Int.toNat_natCast, hb1, Option.bind_some, hm2, hm1, zt (40 * i + (s_nx S (dl s i) (s_nx S (dl s i) (p + 1)) - 2)) (by omega), zt (40 * i + (s_nx S (dl s i) (s_nx S (dl s i) (p + 1)) - 1)) (by omega), zgd_t (by omega), Int.toNat_natCast, Int.toNat_natCast, zn1p, kA_id v3, hb1, zn1p, e4, Option.bind_some, zgd_t (by omega), kA_id v4]
  exact g_kAk (by omega) (by omega) hx.1 hx.2 K.1

theorem bEnvF_step {sc sc' : Nat → Option Nat} {s : zD} {i x b' t k0 : Nat} {a m : Int} (hb : k0 < 950) (hk : k0 < dnb s) (env : bEnvF sc s i a) (hak : a < k0) (h34 : (dm s).2 34 k0 = hz_n x) (h35 : (dm s).2 35 k0 = hz_n m) (h36 : (dm s).2 36 k0 = hz_n a) (hx : x < 26)
    (hd : dd s (40 * i + b') = some t) (hg : dg s t = some m) (hv26 : ∀ v, 26 ≤ v → sc v = none) (hsc : ∀ v, sc' v = if v = x then some b' else sc v) : bEnvF sc' s i k0 := by
  refine ⟨by omega, by omega, fun v b hv => ?_⟩
  have hfu : ((k0 : Int) + 1).toNat = k0 + 1 := by omega
  rw [hfu]
  have hlk : m_look (dm s) (hz_n v) (k0 + 1) (hz_n k0) = if (x : Int) = (hz_n v).toInt then some (hz_n k0) else m_look (dm s) (hz_n v) k0 (hz_n a) := by
    conv => lhs; unfold m_look
    rw [zt k0 (by omega), if_pos (by omega), Int.toNat_natCast, h34, h36, zt x (by omega)]
  rw [hsc] at hv
  split at hv
  · rename_i e
    have := Option.some.inj hv
    subst this; subst e
    refine ⟨t, m, k0, hd, hg, ?_, hk, h35⟩
    rw [hlk, if_pos (by rw [zt v (by omega)])]
  · rename_i e
    have hv26' : v < 26 := by
      by_cases h : v < 26
      · exact h
      · rw [hv26 v (by omega)] at hv; exact absurd hv (by simp)
    obtain ⟨t', m', k, b1, b2, b3, b4, b5⟩ := env.2.2 v b hv
    refine ⟨t', m', k, b1, b2, ?_, b4, b5⟩
    rw [hlk, if_neg (by rw [zt v (by omega)]; omega)]
    exact m_look_up (f := (a + 1).toNat) (by have := env.1; omega) b3
-- bind twice and assign twice
theorem bBind1 {E : Nat → Option zT} {dfs : Nat → Option Nat} {ST : Nat → Nat → Int32} {F l0 am f0 wn wr cr ps ob oe : Nat} {S : zG} {s : zD} {r : List Nat} {c f1 f2 : Nat} {v m : Int32} {a : Int}
    (st : bSta E dfs ST F S) (I : bInv S dfs ST l0 am s) (K : bStk S s (c :: r)) (fr : bFr S l0 f0 s r c f1) (kf : bKF S s c f1 f2) (hnb : dnb s < 950) (ha : -1 ≤ a ∧ a < dnb s) (cnt : bCnt S s wn wr cr (ps + 1) ob oe) :
    bInv S dfs ST l0 am (bsR s (mB (dm s) (dnb s) v m (hz_n a)) (dnc s) (dnb s + 1)) ∧ bStk S (bsR s (mB (dm s) (dnb s) v m (hz_n a)) (dnc s) (dnb s + 1)) (c :: r)
      ∧ bFr S l0 f0 (bsR s (mB (dm s) (dnb s) v m (hz_n a)) (dnc s) (dnb s + 1)) r c f1 ∧ bKF S (bsR s (mB (dm s) (dnb s) v m (hz_n a)) (dnc s) (dnb s + 1)) c f1 f2
      ∧ bGrow s (bsR s (mB (dm s) (dnb s) v m (hz_n a)) (dnc s) (dnb s + 1)) ∧ bCnt S (bsR s (mB (dm s) (dnb s) v m (hz_n a)) (dnc s) (dnb s + 1)) wn wr cr ps (ob + 1) oe := by
  have rm := bRm_bind (v := v) (p := m) (a := a) I hnb ha
  have u := bR_up (S := S) (dfs := dfs) rm I.2.2.2.2.2.2.1
  have hsub : dnb s + 1 - dnb s = 1 := by omega
  have cn := bCnt_grow rm ps (by omega) cnt
  rw [hsub] at cn
  refine ⟨bGrowR st I rm, bStk_g (s := s) rfl rfl rfl K, ?_, ?_, u.1, cn⟩
  · refine bFr_up (b_le I) (by omega) u (bDefs_of st I) (fun l _ => rfl) (fun x _ _ => Or.inr fun _ _ _ _ _ => ⟨id, id, id, fun _ _ _ => ⟨fun _ _ => id, id⟩, fun _ _ _ => id⟩) (fun _ _ => id) (fun j _ => ?_) fr
    show (mB _ _ _ _ _).2 37 j = _ ∧ (mB _ _ _ _ _).2 38 j = _
    rw [mB_an _ _ _ _ _ _ (by decide) (by decide) (by decide), mB_an _ _ _ _ _ _ (by decide) (by decide) (by decide)]; exact ⟨rfl, rfl⟩
  · refine bKF_up u id (fun j _ => ?_) kf
    show (mB _ _ _ _ _).2 37 j = _
    rw [mB_an _ _ _ _ _ _ (by decide) (by decide) (by decide)]
theorem bAsg1 {E : Nat → Option zT} {dfs : Nat → Option Nat} {ST : Nat → Nat → Int32} {F l0 am f0 wn wr cr ps ob oe : Nat} {S : zG} {s : zD} {r : List Nat} {i p b t f1 f2 : Nat}
    (st : bSta E dfs ST F S) (I : bInv S dfs ST l0 am s) (K : bStk S s ((40 * i + p) :: r)) (fr : bFr S l0 f0 s r (40 * i + p) f1) (kf : bKF S s (40 * i + p) f1 f2) (hi : i < de s) (hcl : s_cl S (dl s i) p = 1) (hb : s_cl S (dl s i) b = 2) (ho : s_ow S (dl s i) b = p) (ht : t < 2000) (hd : dd s (40 * i + b) = none)
    (cnt : bCnt S s wn wr cr ps (ob + 1) oe) :
    bInv S dfs ST l0 am (bsD s (40 * i + b) t) ∧ bStk S (bsD s (40 * i + b) t) ((40 * i + p) :: r) ∧ bFr S l0 f0 (bsD s (40 * i + b) t) r (40 * i + p) f1 ∧ bKF S (bsD s (40 * i + b) t) (40 * i + p) f1 f2
      ∧ bGrow s (bsD s (40 * i + b) t) ∧ bCnt S (bsD s (40 * i + b) t) wn wr cr ps ob oe := by
  have hkc := (K.2.2.2.1 _ (List.mem_cons_self ..)).1
  obtain ⟨T, DT⟩ := bDefs_of st I i hi
  have hb40 : b < 40 := by have := DT.2.2.2.2.2.2.2.2.2.2.2.2.1 b hb; have := DT.2.1; omega
  obtain ⟨I2, u2⟩ := bAssign st I hi hb ht (Or.inl hd) (by rw [ho, hkc]; intro _; decide)
  have ky := bKidsTop (Z := fun _ => False) (Y := fun _ => False) (B := (· = 40 * i + b)) (Q := fun _ => False) st I K hi hcl (fun _ => id) (fun _ h => h.elim) (fun _ h => h.elim) (fun x hx => ⟨b, hx, hb, ho⟩)
  have hnb : dnb s ≤ 950 := I.2.1.2.2.2.2.2.2.2.2.2.2.2.2.2
  refine ⟨I2, ?_, bFr_up (b_le I) hnb u2 (bDefs_of st I) (fun l _ => bsD_k _ _ _ _ _ (by decide)) ky.1 (fun _ _ => id) (fun _ _ => ⟨rfl, rfl⟩) fr, bKF_up u2 id (fun _ _ => rfl) kf, u2.1, bCnt_assign (by omega) hd cnt⟩
  obtain ⟨z1, z2, z3, z4, z5⟩ := K
  have e6 : ∀ x, ks (bsD s (40 * i + b) t) x = ks s x := fun x => bsD_k _ _ _ 6 _ (by decide)
  refine ⟨z1, bSk_same (s := s) (by funext y; exact bsD_k _ _ _ 11 _ (by decide)) z2, z3, fun x hx => ?_, fun i' p' a1 a2 => ?_⟩
  · rw [e6]; exact z4 x hx
  · rw [e6]; exact z5 i' p' a1 a2
theorem bW_91 {E : Nat → Option zT} {dfs : Nat → Option Nat} {ST : Nat → Nat → Int32} {F l0 am f0 g wn wr : Nat} {S : zG} {kw : zK} {mw : zM} {s : zD} {r : List Nat} {f1 f2 i p : Nat} {k v : Int32}
    (hF : 951 ≤ F) (st : bSta E dfs ST F S) (I : bInv S dfs ST l0 am s) (K : bStk S s ((40 * i + p) :: r)) (fx : bFix kw mw f0 (dk s) (dm s)) (h5 : (dk s).1 5 = hz_n 0) (hg : ((40 * i + p) :: r).getLast? = some g) (fr : bFr S l0 f0 s r (40 * i + p) f1) (kf : bKF S s (40 * i + p) f1 f2) (hf2 : f2 + 1 < 2150) (hn : dnp s < 1000) (hnb : dnb s < 948)
    (hi : i < de s) (hcl : s_cl S (dl s i) p = 1) (hreg : bReg s (dm s) (f2 + 1) k v) (vr : bVR S dfs s (ks s (40 * i + (p + 1))) (kv s (40 * i + (p + 1))) k v) (cnt : bCnt S s wn wr 0 (psi (dm s) k v) 0 0) (h21 : (dm s).1 21 = hz_n 0)
    (o : s_op S (dl s i) p = 9) (h0 : ks s (40 * i + s_nx S (dl s i) (p + 1)) = hz_n 0) (h1 : ks s (40 * i + s_nx S (dl s i) (s_nx S (dl s i) (p + 1))) = hz_n 0)
    (hd2 : dd s (40 * i + (s_nx S (dl s i) (s_nx S (dl s i) (p + 1)) - 2)) = none) (hd1 : dd s (40 * i + (s_nx S (dl s i) (s_nx S (dl s i) (p + 1)) - 1)) = none)
    (env : bEnv S s i (dl s i) p (da s (40 * i + p))) (frm : bFrm s f2 6 (40 * dl s i + s_nd S (dl s i) p) (hz_n (da s (40 * i + p)))) :
    ∃ κ', g_lookAt (dk s) E (hz_n (40 * i + p : Nat)) = some κ' ∧ bOutc S dfs ST F l0 am f0 g wn wr kw mw (ghs s) κ' (dm s) := by
  obtain ⟨T, D⟩ := bDefs_of st I i hi
  obtain ⟨sh, hp, hi50, h6⟩ := zsg st I hi hcl
  obtain ⟨_, k0, k1, k2, l1, l2, hvl, hmo, cb2, cb1, wb2, wb1, sc0, sc1, sc2⟩ := bSh9 sh o
  have hN := D.2.2.2.2.2.2.2.2.2.2.2.2.2 p hcl
  have hl := (I.2.2.1 i hi).1
  have q0 := (zsg st I hi k0.1).2.2.2
  have q1 := (zsg st I hi k1.1).2.2.2
  have q2 := (zsg st I hi k2.1).2.2.2
  have q2p := (zsg st I hi k2.1).2.1
  have hx := zvr vr
  obtain ⟨_, r18, r22, r24, r25⟩ := hreg
  have hgo2 : m_goOn (dm s) F = m_part (mPop (dm s) f2) F (hz_n (40 * dl s i + s_nd S (dl s i) p : Nat)) (hz_n (da s (40 * i + p))) := by
    rw [m_goF (F := F) (f := f2) (w := 6) (a := 40 * dl s i + s_nd S (dl s i) p) r18 (by omega) frm.1 frm.2 (by omega) (by omega)]
    unfold m_go2
    have t3 : (hz_n ((6 : Nat) : Int)).toInt = 6 := zn_ti (by omega)
    rw [t3, if_neg (by omega), if_neg (by omega), if_pos rfl]
    rfl
  have a24 : (mPop (dm s) f2).1 24 = k := r24
  have a25 : (mPop (dm s) f2).1 25 = v := r25
  rw [g_la9 st I hi hcl o]
  unfold g_lookAtSplit
  have e1 : g_request (dk s) (hz_n (40 * i + (p + 1) : Nat)) = some (hz_n 1, dk s) := q_reqk (c := 40 * i + (p + 1)) (by omega) hx.1 hx.2
  have e2 : g_nextPart (dk s) E (hz_n (40 * i + (p + 1) : Nat)) = some (hz_n (40 * i + s_nx S (dl s i) (p + 1) : Nat)) := g_next_s (i := i) (p := p + 1) st I (κ := dk s) rfl hi k0.1 (by omega)
  have e3 : g_nextPart (dk s) E (hz_n (40 * i + s_nx S (dl s i) (p + 1) : Nat)) = some (hz_n (40 * i + s_nx S (dl s i) (s_nx S (dl s i) (p + 1)) : Nat)) := g_next_s (i := i) (p := s_nx S (dl s i) (p + 1)) st I (κ := dk s) rfl hi k1.1 (by omega)
  have hlen := bStk_len st I K (d := 40 * i + s_nx S (dl s i) (p + 1)) (by omega) h0
  rw [zn1p, e1, Option.bind_some]
  dsimp only
  rw [zn_ti (by omega), if_neg (by omega), e2, Option.bind_some, zt (40 * i + (p + 1)) (by omega), zgd_t (by omega), Int.toNat_natCast]
  by_cases hs3 : ks s (40 * i + (p + 1)) = hz_n 3
  · -- the empty list
    have hk : k = hz_n 1 := (zvr2 vr).2.1.mp hs3
    have hs3' : ((dk s).2.1 6 (40 * i + (p + 1))).toInt = 3 := (zkt (by omega)).mpr hs3
    rw [if_pos hs3']
    refine ⟨_, g_kA0 (by omega) h0 K.1 hlen, ?_⟩
    have c1 := k1.2.2.2.2 (mPop (dm s) f2) (I.1.1 21 (by decide) (by decide)) (I.1.1 23 (by decide) (by decide))
    have eo : hz_n ((1 : Nat) : Int) = hz_n 1 := rfl
    rw [eo] at c1
    have hμ : m_goOn (dm s) F = some (m_evaluate (mPop (dm s) f2) (hz_n (40 * dl s i + s_nd S (dl s i) (s_nx S (dl s i) (p + 1)) : Nat)) (hz_n (da s (40 * i + p)))) := by
      rw [hgo2]
      unfold m_part
      rw [a24, if_pos ((zkt (by omega)).mpr hk), c1, Option.bind_some]
    refine bOutc_run (bRun_go h21 r22 r18 (by omega) hμ) ?_
    have hps : psi (dm s) k v = 0 := by unfold psi; rw [hk, zn_ti (by omega)]; simp
    rw [hps] at cnt
    exact bDn0 hF st I K fx h5 hg fr kf hf2 hn h21 hi hcl k1 h0 (bEnv_sc sc1 env) cnt (Or.inr (Or.inr (Or.inr (Or.inr (Or.inr (Or.inl ⟨o, Or.inr (Or.inl ⟨rfl, hs3, rfl⟩)⟩))))))
  · have hk1 : k ≠ hz_n 1 := fun e => hs3 ((zvr2 vr).2.1.mpr e)
    have hs3' : ¬ ((dk s).2.1 6 (40 * i + (p + 1))).toInt = 3 := fun e => hs3 ((zkt (by omega)).mp e)
    rw [if_neg hs3']
    by_cases hs4 : ks s (40 * i + (p + 1)) = hz_n 4
    · -- a pair
      have hk : k = hz_n 2 := (zvr2 vr).2.2.1.mp hs4
      have hs4' : ((dk s).2.1 6 (40 * i + (p + 1))).toInt = 4 := (zkt (by omega)).mpr hs4
      rw [if_pos hs4', e3, Option.bind_some]
      have hps : psi (dm s) k v = 2 := by unfold psi; rw [hk, zn_ti (by omega), if_pos rfl]
      rw [hps] at cnt
      obtain ⟨i', p', j, a, b, b1, ev, jc, par, e33a, e33b⟩ : ∃ (i' p' j : Nat) (a b : Int), kv s (40 * i + (p + 1)) = hz_n (40 * i' + p' : Nat) ∧ v = hz_n j ∧ j + 1 < dnc s ∧ bPar S s i' p' a b ∧ (dm s).2 33 j = hz_n a ∧ (dm s).2 33 (j + 1) = hz_n b := by
        rcases vr with h | h | h | h
        · rw [h.1] at hs4; exact absurd hs4 (by decide)
        · exact absurd h.1 hs3
        · exact h.2.2
        · rw [h.1] at hs4; exact absurd hs4 (by decide)
      obtain ⟨sh', hp', hi50', h6'⟩ := zsg st I par.1 par.2.1
      obtain ⟨_, k0', k1', _, _, l1'⟩ := bSh5 sh' par.2.2.1
      have q0' := (zsg st I par.1 k0'.1).2.2.2
      have q1' := (zsg st I par.1 k1'.1).2.2.2
      -- the states
      obtain ⟨I1, K1, fr1, kf1, gr1, cn1⟩ := bBind1 (v := hz_n (s_vl S (dl s i) p)) (m := hz_n a) (a := da s (40 * i + p)) st I K fr kf (by omega) ⟨env.1, env.2.1⟩ cnt
      generalize hs1 : bsR s (mB (dm s) (dnb s) (hz_n (s_vl S (dl s i) p)) (hz_n a) (hz_n (da s (40 * i + p)))) (dnc s) (dnb s + 1) = s1 at *
      have hdk1 : dk s1 = dk s := by rw [← hs1]; rfl
      have hgh1 : dl s1 = dl s ∧ de s1 = de s ∧ dd s1 = dd s ∧ dg s1 = dg s ∧ dnp s1 = dnp s ∧ dnb s1 = dnb s + 1 ∧ dnc s1 = dnc s := by rw [← hs1]; exact ⟨rfl, rfl, rfl, rfl, rfl, rfl, rfl⟩
      have hdm1 : dm s1 = mB (dm s) (dnb s) (hz_n (s_vl S (dl s i) p)) (hz_n a) (hz_n (da s (40 * i + p))) := by rw [← hs1]; rfl
      obtain ⟨I2, K2, fr2, kf2, gr2, cn2⟩ := bBind1 (v := hz_n (s_mo S (dl s i) p)) (m := hz_n b) (a := (dnb s : Int)) (ps := 0) st I1 K1 fr1 kf1 (by omega) (by omega) cn1
      generalize hs2 : bsR s1 (mB (dm s1) (dnb s1) (hz_n (s_mo S (dl s i) p)) (hz_n b) (hz_n (dnb s : Int))) (dnc s1) (dnb s1 + 1) = s2 at *
      have hdk2 : dk s2 = dk s := by rw [← hs2]; exact hdk1
      have hgh2 : dl s2 = dl s ∧ de s2 = de s ∧ dd s2 = dd s ∧ dg s2 = dg s ∧ dnp s2 = dnp s ∧ dnb s2 = dnb s + 2 ∧ dnc s2 = dnc s := by rw [← hs2]; exact ⟨hgh1.1, hgh1.2.1, hgh1.2.2.1, hgh1.2.2.2.1, hgh1.2.2.2.2.1, by show dnb s1 + 1 = _; omega, hgh1.2.2.2.2.2.2⟩
      have hdm2 : dm s2 = mB (mB (dm s) (dnb s) (hz_n (s_vl S (dl s i) p)) (hz_n a) (hz_n (da s (40 * i + p)))) (dnb s + 1) (hz_n (s_mo S (dl s i) p)) (hz_n b) (hz_n (dnb s : Int)) := by
        rw [← hs2]; show mB (dm s1) (dnb s1) _ _ _ = _; rw [hdm1, hgh1.2.2.2.2.2.1]
      obtain ⟨I3, K3, fr3, kf3, gr3, cn3⟩ := bAsg1 (i := i) (p := p) (b := s_nx S (dl s i) (s_nx S (dl s i) (p + 1)) - 2) (t := 40 * i' + (p' + 1)) st I2 K2 fr2 kf2 (by rw [hgh2.2.1]; exact hi) (by rw [hgh2.1]; exact hcl) (by rw [hgh2.1]; exact cb2) (by rw [hgh2.1]; exact wb2) (by omega) (by rw [hgh2.2.2.1]; exact hd2) cn2
      generalize hs3e : bsD s2 (40 * i + (s_nx S (dl s i) (s_nx S (dl s i) (p + 1)) - 2)) (40 * i' + (p' + 1)) = s3 at *
      have hdk3 : dk s3 = kA (dk s) 7 (40 * i + (s_nx S (dl s i) (s_nx S (dl s i) (p + 1)) - 2)) (hz_n (40 * i' + (p' + 1) : Nat)) := by rw [← hs3e]; show kA (dk s2) _ _ _ = _; rw [hdk2]
      have hgh3 : dl s3 = dl s ∧ de s3 = de s ∧ dg s3 = dg s ∧ dnp s3 = dnp s ∧ dnb s3 = dnb s + 2 ∧ dm s3 = dm s2 := by rw [← hs3e]; exact ⟨hgh2.1, hgh2.2.1, hgh2.2.2.2.1, hgh2.2.2.2.2.1, hgh2.2.2.2.2.2.1, rfl⟩
      have hdd3 : ∀ x, dd s3 x = if x = 40 * i + (s_nx S (dl s i) (s_nx S (dl s i) (p + 1)) - 2) then some (40 * i' + (p' + 1)) else dd s x := by intro x; rw [← hs3e, bsD_d, hgh2.2.2.1]
      obtain ⟨I4, K4, fr4, kf4, gr4, cn4⟩ := bAsg1 (i := i) (p := p) (b := s_nx S (dl s i) (s_nx S (dl s i) (p + 1)) - 1) (t := 40 * i' + s_nx S (dl s i') (p' + 1)) st I3 K3 fr3 kf3 (by rw [hgh3.2.1]; exact hi) (by rw [hgh3.1]; exact hcl) (by rw [hgh3.1]; exact cb1) (by rw [hgh3.1]; exact wb1) (by omega) (by rw [hdd3, if_neg (by omega)]; exact hd1) cn3
      generalize hs4e : bsD s3 (40 * i + (s_nx S (dl s i) (s_nx S (dl s i) (p + 1)) - 1)) (40 * i' + s_nx S (dl s i') (p' + 1)) = s4 at *
      have hdk4 : dk s4 = kA (kA (dk s) 7 (40 * i + (s_nx S (dl s i) (s_nx S (dl s i) (p + 1)) - 2)) (hz_n (40 * i' + (p' + 1) : Nat))) 7 (40 * i + (s_nx S (dl s i) (s_nx S (dl s i) (p + 1)) - 1)) (hz_n (40 * i' + s_nx S (dl s i') (p' + 1) : Nat)) := by rw [← hs4e]; show kA (dk s3) _ _ _ = _; rw [hdk3]
      have hgh4 : dl s4 = dl s ∧ de s4 = de s ∧ dg s4 = dg s ∧ dnp s4 = dnp s ∧ dnb s4 = dnb s + 2 ∧ dm s4 = dm s2 := by rw [← hs4e]; exact hgh3
      have hdd4 : ∀ x, dd s4 x = if x = 40 * i + (s_nx S (dl s i) (s_nx S (dl s i) (p + 1)) - 1) then some (40 * i' + s_nx S (dl s i') (p' + 1)) else dd s3 x := by intro x; rw [← hs4e, bsD_d]
      have hks4 : ∀ x, ks s4 x = ks s x := by
        intro x; show (dk s4).2.1 6 x = _; rw [hdk4, kA2n _ _ _ _ _ (by decide), kA2n _ _ _ _ _ (by decide)]
      have gr4' := bGrow_trans (bGrow_trans (bGrow_trans gr1 gr2) gr3) gr4
      have hb : dnb s ≤ 950 := by omega
      have env4 : bEnv S s4 i (dl s i) p (da s (40 * i + p)) := bEnv_mono hb gr4' env
      have h34a : ∀ y, y = 34 ∨ y = 35 ∨ y = 36 → (dm s4).2 y (dnb s) = (mB (dm s) (dnb s) (hz_n (s_vl S (dl s i) p)) (hz_n a) (hz_n (da s (40 * i + p)))).2 y (dnb s) := by
        intro y hy
        rw [hgh4.2.2.2.2.2, hdm2, mB_a]
        simp [show ¬ dnb s = dnb s + 1 by omega]
        rcases hy with e | e | e <;> subst e <;> simp
      have h34b : (dm s4).2 34 (dnb s + 1) = hz_n (s_mo S (dl s i) p) ∧ (dm s4).2 35 (dnb s + 1) = hz_n b ∧ (dm s4).2 36 (dnb s + 1) = hz_n (dnb s : Int) := by
        rw [hgh4.2.2.2.2.2, hdm2]
        refine ⟨?_, ?_, ?_⟩
        · rw [mB_a]; simp
        · rw [mB_a]; simp
        · rw [mB_a]; simp
      have hv26 : ∀ y, 26 ≤ y → s_sc S (dl s i) p y = none := D.2.2.2.2.2.2.2.2.2.2.2.1.2 p
      have env5 : bEnvF (fun y => if y = s_vl S (dl s i) p then some (s_nx S (dl s i) (s_nx S (dl s i) (p + 1)) - 2) else s_sc S (dl s i) p y) s4 i (dnb s) := by
        refine bEnvF_step (sc := s_sc S (dl s i) p) (x := s_vl S (dl s i) p) (b' := s_nx S (dl s i) (s_nx S (dl s i) (p + 1)) - 2) (t := 40 * i' + (p' + 1)) (m := a) (a := da s (40 * i + p)) (by omega) (by omega) env4 env.2.1 ?_ ?_ ?_ hvl ?_ ?_ hv26 (fun _ => rfl)
        · rw [h34a 34 (by simp), mB_a]; simp
        · rw [h34a 35 (by simp), mB_a]; simp
        · rw [h34a 36 (by simp), mB_a]; simp
        · rw [hdd4, if_neg (by omega), hdd3, if_pos rfl]
        · rw [hgh4.2.2.1]; exact par.2.2.2.1
      have env6 : bEnv S s4 i (dl s i) (s_nx S (dl s i) (s_nx S (dl s i) (p + 1))) ((dnb s + 1 : Nat) : Int) := by
        refine bEnvF_step (sc := fun y => if y = s_vl S (dl s i) p then some (s_nx S (dl s i) (s_nx S (dl s i) (p + 1)) - 2) else s_sc S (dl s i) p y) (x := s_mo S (dl s i) p) (b' := s_nx S (dl s i) (s_nx S (dl s i) (p + 1)) - 1) (t := 40 * i' + s_nx S (dl s i') (p' + 1)) (m := b) (a := (dnb s : Int)) (by omega) (by omega) env5 (by omega) h34b.1 h34b.2.1 h34b.2.2 hmo ?_ ?_ ?_ sc2
        · rw [hdd4, if_pos rfl]
        · rw [hgh4.2.2.1]; exact par.2.2.2.2
        · intro y hy
          show (if y = s_vl S (dl s i) p then _ else s_sc S (dl s i) p y) = none
          rw [if_neg (by omega)]; exact hv26 y hy
      -- the reference
      generalize hμ : m_evaluate (mB (mB (mPop (dm s) f2) (dnb s) (hz_n (s_vl S (dl s i) p)) (hz_n a) (hz_n (da s (40 * i + p)))) (dnb s + 1) (hz_n (s_mo S (dl s i) p)) (hz_n b) (hz_n (dnb s : Int))) (hz_n (40 * dl s i + s_nd S (dl s i) (s_nx S (dl s i) (s_nx S (dl s i) (p + 1))) : Nat)) (hz_n ((dnb s + 1 : Nat) : Int)) = μ
      have r17 : (dm s).1 17 = hz_n (dnb s) := I.2.1.2.2.2.2.2.2.2.2.2.2.1
      have hjc : j + 1 < 2600 := by have := I.2.1.2.2.2.2.2.2.2.2.2.2.2.2.1; omega
      have hgo : m_goOn (dm s) F = some μ := by
        rw [hgo2]
        unfold m_part
        have a17 : (mPop (dm s) f2).1 17 = hz_n (dnb s) := r17
        have a22 : (mPop (dm s) f2).2 22 (40 * dl s i + s_nd S (dl s i) p) = hz_n (s_vl S (dl s i) p) := by
          have : (mPop (dm s) f2).2 22 = ST 22 := I.1.1 22 (by decide) (by decide)
          rw [this]; exact hN.2.2.2.2.2.2.2.2.2.1 (by omega)
        have a33 : (mPop (dm s) f2).2 33 j = hz_n a := e33a
        rw [a24, if_neg (fun e => hk1 ((zkt (by omega)).mp e)), if_pos ((zkt (by omega)).mpr hk), a25, a17, ev, zt _ (by omega), zgd_t (by omega), zt j (by omega), zgd_t (by omega), zt (dnb s) (by omega), zgd_t (by omega), Int.toNat_natCast, Int.toNat_natCast, a22, a33, m_bindF a17 (by omega)]
        show m_part2 (mB (mPop (dm s) f2) (dnb s) (hz_n (s_vl S (dl s i) p)) (hz_n a) (hz_n (da s (40 * i + p)))) F _ _ = _
        unfold m_part2
        have b25 : (mB (mPop (dm s) f2) (dnb s) (hz_n (s_vl S (dl s i) p)) (hz_n a) (hz_n (da s (40 * i + p)))).1 25 = hz_n j := by rw [mB_s _ _ _ _ _ _ (by decide), a25, ev]
        have b17 : (mB (mPop (dm s) f2) (dnb s) (hz_n (s_vl S (dl s i) p)) (hz_n a) (hz_n (da s (40 * i + p)))).1 17 = hz_n (dnb s + 1 : Nat) := rfl
        have b23 : (mB (mPop (dm s) f2) (dnb s) (hz_n (s_vl S (dl s i) p)) (hz_n a) (hz_n (da s (40 * i + p)))).2 23 (40 * dl s i + s_nd S (dl s i) p) = hz_n (s_mo S (dl s i) p) := by
          rw [mB_an _ _ _ _ _ _ (by decide) (by decide) (by decide)]
          have : (mPop (dm s) f2).2 23 = ST 23 := I.1.1 23 (by decide) (by decide)
          rw [this]; exact hN.2.2.2.2.2.2.2.2.2.2.1 (Or.inr o)
        have b33 : (mB (mPop (dm s) f2) (dnb s) (hz_n (s_vl S (dl s i) p)) (hz_n a) (hz_n (da s (40 * i + p)))).2 33 (j + 1) = hz_n b := by
          rw [mB_an _ _ _ _ _ _ (by decide) (by decide) (by decide)]; exact e33b
        have x1 : hz_n (dnb s : Int) + hz_n 1 - hz_n 1 = hz_n (dnb s : Int) := by rw [zn_add, zn_sub]; congr 1; omega
        rw [b25, b17, zn1, zt (j + 1) (by omega), zgd_t (by omega), zt (dnb s + 1) (by omega), zgd_t (by omega), zt (40 * dl s i + s_nd S (dl s i) p) (by omega), Int.toNat_natCast, Int.toNat_natCast, b23, b33]
        have x2 : hz_n ((dnb s + 1 : Nat) : Int) + hz_n 1 - hz_n 1 = hz_n ((dnb s + 1 : Nat) : Int) := by rw [zn_add, zn_sub]; congr 1; omega
        rw [x1, x2, m_bindF b17 (by omega)]
        unfold m_part3
        have c2 := k2.2.2.2.2 (mB (mB (mPop (dm s) f2) (dnb s) (hz_n (s_vl S (dl s i) p)) (hz_n a) (hz_n (da s (40 * i + p)))) (dnb s + 1) (hz_n (s_mo S (dl s i) p)) (hz_n b) (hz_n (dnb s : Int)))
          (by rw [mB_an _ _ _ _ _ _ (by decide) (by decide) (by decide), mB_an _ _ _ _ _ _ (by decide) (by decide) (by decide)]; exact I.1.1 21 (by decide) (by decide)) (by rw [mB_an _ _ _ _ _ _ (by decide) (by decide) (by decide), mB_an _ _ _ _ _ _ (by decide) (by decide) (by decide)]; exact I.1.1 23 (by decide) (by decide))
        have et : hz_n ((2 : Nat) : Int) = hz_n 2 := rfl
        rw [et] at c2
        have c3 : m_child (mS (mA (mA (mA (mB (mPop (dm s) f2) (dnb s) (hz_n (s_vl S (dl s i) p)) (hz_n a) (hz_n (da s (40 * i + p)))) 34 (dnb s + 1) (hz_n (s_mo S (dl s i) p))) 35 (dnb s + 1) (hz_n b)) 36 (dnb s + 1) (hz_n (dnb s : Int))) 17 (hz_n (dnb s + 1 + 1 : Nat))) F (hz_n (40 * dl s i + s_nd S (dl s i) p : Nat)) (hz_n 2) = _ := c2
        rw [c3, Option.bind_some, ← hμ]
        rfl
      refine ⟨kPush (dk s4) (40 * i + s_nx S (dl s i) (s_nx S (dl s i) (p + 1))) (r.length + 1), ?_, bOutc_run (bRun_go h21 r22 r18 (by omega) hgo) ?_⟩
      · unfold g_sp2 g_head g_tail
        have hb1 : (dk s).2.1 7 (40 * i + (p + 1)) = hz_n (40 * i' + p' : Nat) := b1
        have hm2 : hz_n (40 * i + s_nx S (dl s i) (s_nx S (dl s i) (p + 1)) : Nat) - hz_n 2 = hz_n (40 * i + (s_nx S (dl s i) (s_nx S (dl s i) (p + 1)) - 2) : Nat) := by rw [zn_sub]; congr 1; omega
        have hm1 : hz_n (40 * i + s_nx S (dl s i) (s_nx S (dl s i) (p + 1)) : Nat) - hz_n 1 = hz_n (40 * i + (s_nx S (dl s i) (s_nx S (dl s i) (p + 1)) - 1) : Nat) := by rw [zn_sub]; congr 1; omega
        have hb1' : (kA (dk s) 7 (40 * i + (s_nx S (dl s i) (s_nx S (dl s i) (p + 1)) - 2)) (hz_n (40 * i' + (p' + 1) : Nat))).2.1 7 (40 * i + (p + 1)) = hz_n (40 * i' + p' : Nat) := by
          rw [kA2, if_pos rfl, if_neg (by omega)]; exact hb1
        have e4 : g_nextPart (kA (dk s) 7 (40 * i + (s_nx S (dl s i) (s_nx S (dl s i) (p + 1)) - 2)) (hz_n (40 * i' + (p' + 1) : Nat))) E (hz_n (40 * i' + (p' + 1) : Nat)) = some (hz_n (40 * i' + s_nx S (dl s i') (p' + 1) : Nat)) := g_next_s (i := i') (p := p' + 1) st I (κ := kA (dk s) 7 (40 * i + (s_nx S (dl s i) (s_nx S (dl s i) (p + 1)) - 2)) (hz_n (40 * i' + (p' + 1) : Nat))) rfl par.1 k0'.1 (by omega)
        rw [zn1p, zt (40 * i + (p + 1)) (by omega), zgd_t (by omega), Int.toNat_natCast, hb1, Option.bind_some, hm2, hm1, zt (40 * i + (s_nx S (dl s i) (s_nx S (dl s i) (p + 1)) - 2)) (by omega), zt (40 * i + (s_nx S (dl s i) (s_nx S (dl s i) (p + 1)) - 1)) (by omega), zgd_t (by omega), Int.toNat_natCast, Int.toNat_natCast, zn1p, hb1', zn1p, e4, Option.bind_some, zgd_t (by omega), hdk4]
        refine g_kA0 (by omega) ?_ K.1 hlen
        rw [kA2n _ _ _ _ _ (by decide), kA2n _ _ _ _ _ (by decide)]; exact h1
      have hsame : bSame (fun _ => False) s4 (bsN s4 μ) := by
        refine bsN_same ⟨?_, ?_⟩
        · rw [← hμ, hgh4.2.2.2.2.2, hdm2]; exact ⟨rfl, rfl, rfl, rfl, rfl⟩
        · intro y y1 y2
          rw [← hμ, hgh4.2.2.2.2.2, hdm2]; rfl
      have hμn : ∀ y, y = 37 ∨ y = 38 ∨ (16 ≤ y ∧ y ≤ 23) → μ.2 y = (dm s).2 y := by
        intro y hy
        rw [← hμ, m_evaluate2, mB_an _ _ _ _ _ _ (by omega) (by omega) (by omega), mB_an _ _ _ _ _ _ (by omega) (by omega) (by omega)]; rfl
      have h4n : ∀ y, y = 37 ∨ y = 38 → (dm s4).2 y = (dm s).2 y := by
        intro y hy
        rw [hgh4.2.2.2.2.2, hdm2, mB_an _ _ _ _ _ _ (by omega) (by omega) (by omega), mB_an _ _ _ _ _ _ (by omega) (by omega) (by omega)]
      have hms : ∀ y, y ≠ 17 → y ≠ 18 → y ≠ 22 → y ≠ 23 → y ≠ 24 → μ.1 y = (dm s).1 y := by
        intro y y1 y2 y3 y4 y5
        rw [← hμ, m_evaluate1 y3 y4 y5, mB_s _ _ _ _ _ _ y1, mB_s _ _ _ _ _ _ y1]
        unfold mPop; rw [mS1, if_neg y2]
      have u5 := bUp_same (S := S) (dfs := dfs) hsame I4.2.2.2.2.2.2.1
      have hb4 : dnb s4 ≤ 950 := by omega
      refine bOutc_gh (gh' := ghs (bsN s4 μ)) (ghL_t (ghL_g gr4') (ghL_g u5.1)) ?_
      refine bDown (s := bsN s4 μ) (c := 40 * i + p) (f1 := f1) (f2 := f2) (f := f2) (i := i) (p := s_nx S (dl s i) (s_nx S (dl s i) (p + 1))) (a := ((dnb s + 1 : Nat) : Int)) hF st (bInv_same st I4 hsame) (bStk_same hsame rfl rfl K4) ?_ ?_ hg (bFr_same I4 (bDefs_of st I4) hsame (fun _ _ => id) (fun y _ => by
          show μ.2 37 y = _ ∧ μ.2 38 y = _
          rw [hμn 37 (by simp), hμn 38 (by simp), h4n 37 (by simp), h4n 38 (by simp)]; exact ⟨rfl, rfl⟩) fr4) (bKF_same I4 hsame (fun y _ => by show μ.2 37 y = _; rw [hμn 37 (by simp), h4n 37 (by simp)]) kf4) ?_ (by omega) (by show dnp s4 < 1000; omega) ?_ ?_ ?_ ?_ ?_ ?_ ?_ ?_ ?_ ?_ (bCnt_same hsame cn4)
      · refine bFix_k fx ?_ ?_ ?_ ?_ ?_ (by show (dk s4).2.2 3 = _; rw [hdk4]; rfl)
        · intro y hy; show (dk s4).1 y = _; rw [hdk4, kA1, kA1]
        · intro y hy; show (dk s4).2.1 y = _; rw [hdk4, kA2n _ _ _ _ _ (by omega), kA2n _ _ _ _ _ (by omega)]
        · intro y y1 y2; show μ.1 y = _; exact hms y (by omega) (by omega) (by omega) (by omega) (by omega)
        · intro y hy; show μ.2 y = _; exact hμn y (by omega)
        · intro y _; show μ.2 37 y = _ ∧ μ.2 38 y = _; rw [hμn 37 (by simp), hμn 38 (by simp)]; exact ⟨rfl, rfl⟩
      · show (dk s4).1 5 = _; rw [hdk4, kA1, kA1]; exact h5
      · refine Or.inr ⟨i, p, rfl, by show i < de s4; omega, by show s_cl S (dl s4 i) p = 1; rw [hgh4.1]; exact hcl, ?_⟩
        show bW1 S (bsN s4 μ) i (dl s4 i) p _ _ _
        rw [hgh4.1]
        refine Or.inr (Or.inr (Or.inr (Or.inr (Or.inr (Or.inl ⟨o, Or.inr (Or.inr ⟨rfl, ?_, rfl, i', p', a, b, ?_, bPar_mono u5.1 (bPar_mono gr4' par), ?_, ?_⟩)⟩)))))
        · show ks s4 _ = _; rw [hks4]; exact hs4
        · show (dk s4).2.1 7 _ = _; rw [hdk4, kA2, if_pos rfl, if_neg (by omega), kA2, if_pos rfl, if_neg (by omega)]; exact b1
        · show dd s4 _ = _; rw [hdd4, if_neg (by omega), hdd3, if_pos rfl]
        · show dd s4 _ = some (40 * i' + s_nx S (dl s4 i') (p' + 1)); rw [hdd4, if_pos rfl, hgh4.1]
      · show μ.1 21 = _; rw [hms 21 (by decide) (by decide) (by decide) (by decide) (by decide)]; exact h21
      · show i < de s4; omega
      · show s_cl S (dl s4 i) _ = 1; rw [hgh4.1]; exact k2.1
      · show ks s4 _ = _; rw [hks4]; exact h1
      · refine Or.inl ⟨?_, ?_⟩
        · show s_ro S (dl s4 i) _ = 0; rw [hgh4.1]; exact k2.2.2.1
        · show _ = 40 * i + s_pa S (dl s4 i) _; rw [hgh4.1, k2.2.1]
      · show dg s4 _ = none; rw [hgh4.2.2.1]; exact bDir_g st I hi k2.1 k2.2.2.1
      · show μ.1 18 = _; rw [← hμ, m_evaluate1 (by decide) (by decide) (by decide), mB_s _ _ _ _ _ _ (by decide), mB_s _ _ _ _ _ _ (by decide)]; rfl
      · show μ.1 22 = hz_n (40 * dl s4 i + s_nd S (dl s4 i) _ : Nat); rw [hgh4.1, ← hμ]; rfl
      · show μ.1 23 = _; rw [← hμ]; rfl
      · show bEnv S (bsN s4 μ) i (dl s4 i) _ _
        rw [hgh4.1]; exact bEnv_mono hb4 u5.1 env6
    · -- no list
      have hk2 : k ≠ hz_n 2 := fun e => hs4 ((zvr2 vr).2.2.1.mpr e)
      have hs4' : ¬ ((dk s).2.1 6 (40 * i + (p + 1))).toInt = 4 := fun e => hs4 ((zkt (by omega)).mp e)
      rw [if_neg hs4']
      refine ⟨_, rfl, ?_⟩
      refine bEndB (f := f2) I fx (bRun_go h21 r22 r18 (by omega) ?_)
      rw [hgo2]
      unfold m_part
      rw [a24, if_neg (fun e => hk1 ((zkt (by omega)).mp e)), if_neg (fun e => hk2 ((zkt (by omega)).mp e))]
