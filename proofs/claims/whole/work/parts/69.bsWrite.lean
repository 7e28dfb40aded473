theorem bFix_self {s : zD} {f0 : Nat} : bFix (dk s) (dm s) f0 (dk s) (dm s) := ⟨fun _ _ => rfl, fun _ _ => rfl, fun _ _ _ => rfl, fun _ _ => rfl, fun _ _ => ⟨rfl, rfl⟩, rfl⟩
-- a promise is needed from outside of all expressions
theorem bNeedT {E : Nat → Option zT} {dfs : Nat → Option Nat} {ST : Nat → Nat → Int32} {F l0 am f0 wn wr : Nat} {S : zG} {s : zD} {μ : zM} {t : Nat} {m : Int} (hF : 951 ≤ F) (st : bSta E dfs ST F S) (cap : ∀ l, l < 26 → dfs l ≠ none → bCap S l) (hwn : wn ≤ 61) (hwr : wr ≤ 60) (hf0 : f0 ≤ 62)
    (I : bInv S dfs ST l0 am s) (K : bStk S s []) (h5 : (dk s).1 5 = hz_n 0) (h21 : (dm s).1 21 = hz_n 0) (r18 : (dm s).1 18 = hz_n f0) (hg : dg s t = some m) (hnd : m_need (dm s) (hz_n m) = some μ) (cnt : bCnt S s wn wr 1 0 0 0) :
    ∃ b κ', g_need (dk s) E (hz_n t) = some (b, κ') ∧ bDone S dfs ST F l0 am f0 t wn wr (dk s) (dm s) (ghs s) b κ' μ := by
  obtain ⟨hm1, hm2, i, p, et, hi, hcl⟩ := I.2.2.2.2.1 t m hg
  subst et
  have h6 := (zsg st I hi hcl).2.2.2
  obtain ⟨rm1, rm2, rm3⟩ := bRoom st I cap hwn hwr (Nat.zero_le _) cnt
  unfold g_need
  rw [h5, zn_ti (by omega), if_pos rfl]
  obtain ⟨M1, M2⟩ := (I.2.2.2.2.2.2.2 i p hi hcl).2.1 m hg
  rcases M2 with h0 | h1 | ⟨k, v, nk, vr⟩
  · rw [q_req0 (n := 0) (by omega) h0 K.1 (by omega), Option.bind_some]
    dsimp only
    rw [zn_ti (by omega), if_pos rfl]
    obtain ⟨μ1, run1, out⟩ := bGo (sk := []) (f := f0) (f0 := f0) (g := 40 * i + p) (kw := dk s) (mw := dm s) hF st I K bFix_self h5 rfl rfl (by omega) (by omega) h21 hi hcl h0 hg r18 hnd cnt
    have z0 : hz_n 0 = hz_n ((0 : Nat) : Int) := rfl
    have l0e : ([] : List Nat).length = 0 := rfl
    rw [l0e] at out
    rcases out with ⟨s1, sk1, e3, H1, G1⟩ | ⟨z, z1, z2, z3, z4, z5, z6⟩
    · obtain ⟨b, κ', a1, μ', a2, a3⟩ := g_ndT hF st cap hwn hwr hf0 7100 1000001 0 s1 μ1 sk1 (by omega) (by omega) (by omega) H1
      rw [e3, ← z0] at a1
      refine ⟨b, κ', a1, μ', bRun_trans run1 a2, ?_⟩
      rcases a3 with ⟨c1, s2, c2, c3, c4⟩ | a3
      · exact Or.inl ⟨c1, s2, c2, c3, ghL_t G1 c4⟩
      · exact Or.inr a3
    · refine ⟨hz_n 0, kPush (dk s) (40 * i + p) 0, ?_, μ1, run1, Or.inr ⟨rfl, z, z1, z2, z3, z4, z5, z6⟩⟩
      have hnf := g_nfz z3 ⟨z1, z2⟩
      rw [show (1000001 : Nat) = 1000000 + 1 from rfl, g_nd, zn_ti (by omega), if_neg (by omega)]
      split
      · exact hnf
      · rw [if_neg (by rw [z3, zn_ti (by omega)]; omega)]; exact hnf
  · exact absurd (K.2.2.2.2 i p hi hcl h1) (by simp)
  · have hx := zvr vr
    rw [q_reqk (by omega) hx.1 hx.2, Option.bind_some]
    dsimp only
    have t1 : (hz_n 1).toInt = 1 := zn_ti (by omega)
    rw [t1, if_neg (by omega), g_nf0 h5]
    obtain ⟨v', μ', e1, e2, e3, e4⟩ := bNK_need st I ⟨hm1, hm2⟩ nk
    have hμ : μ' = dm s := Prod.ext e3 (funext e4)
    subst hμ
    rw [hnd] at e1
    have := Option.some.inj e1
    subst this
    have hsame : bSame (fun _ => False) s (bsN s (m_found (dm s) k v')) := bsN_same ⟨⟨rfl, rfl, rfl, rfl, rfl⟩, fun _ _ _ => rfl⟩
    have u := bUp_same (S := S) (dfs := dfs) hsame I.2.2.2.2.2.2.1
    have vr' : bVR S dfs s (ks s (40 * i + p)) (kv s (40 * i + p)) k v' := by
      by_cases e : k = hz_n 1
      · rcases vr with h | h | h | h
        · rw [h.2.1] at e; exact absurd e (by decide)
        · exact Or.inr (Or.inl h)
        · rw [h.2.1] at e; exact absurd e (by decide)
        · rw [h.2.1] at e; exact absurd e (by decide)
      · rw [e2 e]; exact vr
    refine ⟨_, _, rfl, _, bRun_refl _ _, Or.inl ⟨rfl, bsN s (m_found (dm s) k v'), rfl, ⟨bInv_same st I hsame, bStk_same hsame rfl rfl K, bFix_found bFix_self, h5, h21, k, v', ⟨rfl, r18, rfl, rfl, rfl⟩, bVR_mono u.1 vr', bCnt_ps (Nat.zero_le _) (by omega) (bCnt_same hsame cnt)⟩, ghL_r _⟩⟩
-- what the writer holds
def bOpens (S : zG) (s : zD) (κ : zK) (o : Nat) (B : Nat → Int) : Prop := ∀ j, j < o → ∃ i p, κ.2.1 14 j = hz_n (40 * i + p : Nat) ∧ i < de s ∧ s_cl S (dl s i) p = 1 ∧ s_op S (dl s i) p = 5 ∧ dg s (40 * i + s_nx S (dl s i) (p + 1)) = some (B j)
def bRests (μ : zM) (n : Nat) (B : Nat → Int) : Prop := ∀ j, j < n → μ.2 37 j = hz_n (4096 * 8 + 0 : Nat) ∧ μ.2 38 j = hz_n (B j)
-- at the head of the writer's loop: fo frames of pairs, and one of the writer's own on top; go: what is due goes on a pair
def bWr (S : zG) (dfs : Nat → Option Nat) (ST : Nat → Nat → Int32) (l0 am : Nat) (s : zD) (μ : zM) (o fo n wn t : Nat) (m : Int) (go : Bool) (B : Nat → Int) : Prop :=
  bInv S dfs ST l0 am s ∧ bStk S s [] ∧ (dk s).1 5 = hz_n 0 ∧ (dm s).1 21 = hz_n 0 ∧ bPg (dk s) (dm s) n ∧ wn ≤ n ∧ o ≤ n
  ∧ ((dk s).1 7 = hz_n o ∧ (dk s).1 8 = hz_n t ∧ (dk s).1 9 = hz_n (if go then 1 else 0) ∧ t < 2001) ∧ bOpens S s (dk s) o B ∧ bRests (dm s) fo B
  ∧ ((dm s).1 18 = hz_n (fo + 1 : Nat) ∧ (dm s).2 37 fo = hz_n (4096 * (if go then 9 else 7) + 0 : Nat)) ∧ ((go = true ∧ o = fo + 1) ∨ (go = false ∧ o = fo))
  ∧ dg s t = some m ∧ m_need (dm s) (hz_n m) = some μ ∧ bCnt S s wn n 1 0 0 0
theorem bOpens_g {S : zG} {s s' : zD} {κ κ' : zK} {o : Nat} {B : Nat → Int} (g : ghL (ghs s) (ghs s')) (h : ∀ j, j < o → κ'.2.1 14 j = κ.2.1 14 j) (H : bOpens S s κ o B) : bOpens S s' κ' o B := by
  intro j hj
  obtain ⟨i, p, h1, h2, h3, h4, h5⟩ := H j hj
  have e : dl s' i = dl s i := g.2.2 i h2
  refine ⟨i, p, by rw [h j hj]; exact h1, Nat.lt_of_lt_of_le h2 g.2.1, by rw [e]; exact h3, by rw [e]; exact h4, ?_⟩
  rw [e]; exact g.1 _ _ h5
-- the run has come to its end, by itself or not
def bEndW (dfs : Nat → Option Nat) (ST : Nat → Nat → Int32) (κ0 : zK) (μ0 : zM) (κ : zK) (μ : zM) : Prop := ∃ (z : Int) (n : Nat), -5 ≤ z ∧ z ≤ 0 ∧ κ.1 5 = hz_n z ∧ μ.1 21 = hz_n z ∧ bPg κ μ n ∧ (∃ e : Nat, e ≤ 50 ∧ κ.1 4 = hz_n e ∧ μ.1 20 = hz_n e)
  ∧ (κ.1 0 = κ0.1 0 ∧ κ.2.1 1 = κ0.2.1 1 ∧ κ.2.2 3 = dfs) ∧ (μ.1 10 = μ0.1 10 ∧ μ.1 11 = μ0.1 11 ∧ μ.2 16 = μ0.2 16 ∧ ∀ b, 18 ≤ b → b ≤ 23 → μ.2 b = ST b)

theorem bCnt_w {S : zG} {s : zD} {wn n n' ps : Nat} (hp : ps ≤ 12) (hn : n + 1 ≤ n') (H : bCnt S s wn n 0 ps 0 0) : bCnt S s (wn + 1) n' 1 0 0 0 := by
  obtain ⟨H1, H2, H3, H4, H5⟩ := H
  exact ⟨H1, by omega, H3, by omega, H5⟩
def bStop (μ : zM) : Prop := μ.1 21 ≠ hz_n 0 ∨ (μ.1 22 = hz_n (-1) ∧ μ.1 18 = hz_n 0)
-- what one turn of the writer's loop comes to
def bIt (S : zG) (dfs : Nat → Option Nat) (ST : Nat → Nat → Int32) (F l0 am n : Nat) (κ0 : zK) (μ0 : zM) (κ' : zK) (μ : zM) : Prop := ∃ μ', bRun F μ μ' ∧
  ((∃ s' o fo n' wn t m go B, dk s' = κ' ∧ n < n' ∧ bWr S dfs ST l0 am s' μ' o fo n' wn t m go B ∧ (κ'.1 0 = κ0.1 0 ∧ κ'.2.1 1 = κ0.2.1 1) ∧ ((dm s').1 10 = μ0.1 10 ∧ (dm s').1 11 = μ0.1 11 ∧ (dm s').2 16 = μ0.2 16))
   ∨ ((κ'.1 5 ≠ hz_n 0 ∨ κ'.1 8 = hz_n (-1)) ∧ bStop μ' ∧ bEndW dfs ST κ0 μ0 κ' μ'))
-- behind a value: on to what the pair goes on with, or to the end
theorem bAfter {E : Nat → Option zT} {dfs : Nat → Option Nat} {ST : Nat → Nat → Int32} {F l0 am fo n wn ps : Nat} {S : zG} {s : zD} {κ0 : zK} {μ0 : zM} {κ2 : zK} {μ2 : zM} {B : Nat → Int} (st : bSta E dfs ST F S) (cap : ∀ l, l < 26 → dfs l ≠ none → bCap S l)
    (I : bInv S dfs ST l0 am s) (K : bStk S s []) (hn60 : wn ≤ n) (hn6 : n ≤ 60) (hfo : fo ≤ n) (op : bOpens S s κ2 fo B) (re : bRests μ2 fo B) (hps : ps ≤ 12) (cnt : bCnt S s wn n 0 ps 0 0)
    (hp : bPut κ2 μ2) (hn : κ2.1 5 = hz_n 0 → ∃ n', n < n' ∧ bPg κ2 μ2 n')
    (k1 : ∀ b, b ≠ 5 → b ≠ 6 → b ≠ 7 → κ2.1 b = (dk s).1 b) (k7 : κ2.1 7 = hz_n fo) (k2 : ∀ b, b ≠ 13 → b ≠ 14 → κ2.2.1 b = (dk s).2.1 b) (k3 : κ2.2.2 = (dk s).2.2) (kk : (dk s).1 0 = κ0.1 0 ∧ (dk s).2.1 1 = κ0.2.1 1)
    (m1 : ∀ b, b ≠ 12 → b ≠ 18 → b ≠ 21 → b ≠ 22 → b ≠ 24 → μ2.1 b = (dm s).1 b) (m2 : ∀ b, b ≠ 17 → μ2.2 b = (dm s).2 b) (m18 : μ2.1 18 = hz_n fo) (m22 : μ2.1 22 = hz_n (-1)) (mm0 : (dm s).1 10 = μ0.1 10 ∧ (dm s).1 11 = μ0.1 11 ∧ (dm s).2 16 = μ0.2 16) :
    ∃ κ', g_goOn κ2 E = some κ' ∧ bIt S dfs ST F l0 am n κ0 μ0 κ' μ2 := by
  obtain ⟨j1, j2, j3, j4, j5, j6, j7, j8, j9, j10, j11, j12, j13, j14⟩ := id I.2.1
  have hle := b_le I
  have n60 : n ≤ 60 ∧ fo ≤ 60 := by omega
  have hst : ∀ b, 18 ≤ b → b ≤ 23 → μ2.2 b = ST b := fun b b1 b2 => by rw [m2 b (by omega)]; exact I.1.1 b b1 b2
  have hfin : ∀ (κ' : zK) (z : Int) (n' : Nat), (∀ b, b ≠ 8 → b ≠ 9 → κ'.1 b = κ2.1 b) → κ'.2 = κ2.2 → -5 ≤ z → z ≤ 0 → κ2.1 5 = hz_n z → μ2.1 21 = hz_n z → bPg κ2 μ2 n' → bEndW dfs ST κ0 μ0 κ' μ2 := by
    intro κ' z n' e1 e2 z1 z2 h5 h21 hpg
    refine ⟨z, n', z1, z2, by rw [e1 5 (by decide) (by decide)]; exact h5, h21, ⟨hpg.1, by rw [e1 6 (by decide) (by decide)]; exact hpg.2.1, hpg.2.2.1, by rw [e2]; exact hpg.2.2.2⟩, ⟨de s, hle, ?_, ?_⟩, ⟨?_, ?_, ?_⟩, ?_, ?_, ?_, hst⟩
    · rw [e1 4 (by decide) (by decide), k1 4 (by decide) (by decide) (by decide)]; exact j1
    · rw [m1 20 (by decide) (by decide) (by decide) (by decide) (by decide)]; exact j2
    · rw [e1 0 (by decide) (by decide), k1 0 (by decide) (by decide) (by decide)]; exact kk.1
    · rw [e2, k2 1 (by decide) (by decide)]; exact kk.2
    · rw [e2, k3]; exact I.1.2
    · rw [m1 10 (by decide) (by decide) (by decide) (by decide) (by decide)]; exact mm0.1
    · rw [m1 11 (by decide) (by decide) (by decide) (by decide) (by decide)]; exact mm0.2.1
    · rw [m2 16 (by decide)]; exact mm0.2.2
  unfold g_goOn
  rw [k7, zt fo (by omega)]
  by_cases h0 : fo = 0
  · subst h0
    rw [if_pos (by omega)]
    refine ⟨_, rfl, μ2, bRun_refl _ _, Or.inr ⟨Or.inr rfl, ?_, ?_⟩⟩
    · exact Or.inr ⟨m22, m18⟩
    · rcases hp with ⟨n', h1, h5, h21⟩ | ⟨h1, h5, h21⟩
      · exact hfin _ 0 n' (fun b b8 b9 => by rw [kS1, if_neg b8, kS1, if_neg b9]) rfl (by omega) (by omega) h5 h21 h1
      · exact hfin _ (-5) 60 (fun b b8 b9 => by rw [kS1, if_neg b8, kS1, if_neg b9]) rfl (by omega) (by omega) h5 h21 h1
  · have e1 : hz_n (fo : Int) - hz_n 1 = hz_n ((fo - 1 : Nat) : Int) := by rw [zn_sub]; congr 1; omega
    obtain ⟨i, p, a1, a2, a3, a4, a5⟩ := op (fo - 1) (by omega)
    obtain ⟨sh, hp40, _, hip⟩ := zsg st I a2 a3
    obtain ⟨_, kd0, kd1, _, _, ltt⟩ := bSh5 sh a4
    have hq := (zsg st I a2 kd1.1).2.2.2
    have e2 : g_tail (kS κ2 9 (hz_n 1)) E (hz_n (40 * i + p : Nat)) = some (hz_n (40 * i + s_nx S (dl s i) (p + 1) : Nat)) := by
      unfold g_tail
      rw [zn1p]
      exact g_next_s (i := i) (p := p + 1) st I (κ := kS κ2 9 (hz_n 1)) (by rw [kS2, k3]) a2 kd0.1 (by omega)
    rw [if_neg (by omega), e1, zt (fo - 1) (by omega), zgd_t (by omega), Int.toNat_natCast, a1, e2, Option.bind_some]
    refine ⟨_, rfl, ?_⟩
    rcases hp with ⟨n', h1, h5, h21⟩ | ⟨h1, h5, h21⟩
    · -- on to the rest
      obtain ⟨n'', hlt, h1'⟩ := hn h5
      have := bPg_u h1 h1'
      subst this
      obtain ⟨r1, r2⟩ := re (fo - 1) (by omega)
      have hgo : m_goOn μ2 F = m_need (mS (mA (mA (mPop μ2 (fo - 1)) 37 (fo - 1) (hz_n (4096 * 9 + 0 : Nat))) 38 (fo - 1) (hz_n 0)) 18 (hz_n (fo - 1 + 1 : Nat))) (hz_n (B (fo - 1))) := by
        have ef : fo - 1 + 1 = fo := by omega
        rw [m_goF (F := F) (f := fo - 1) (w := 8) (a := 0) (by rw [ef]; exact m18) (by omega) r1 r2 (by omega) (by omega)]
        unfold m_go2
        have t8 : (hz_n ((8 : Nat) : Int)).toInt = 8 := zn_ti (by omega)
        have p18 : (mS μ2 18 (hz_n ((fo - 1 : Nat) : Int))).1 18 = hz_n ((fo - 1 : Nat) : Int) := rfl
        rw [t8, if_neg (by omega), if_neg (by omega), if_neg (by omega), if_neg (by omega), if_pos rfl, p18, zt (fo - 1) (by omega), zgd_t (by omega)]
        have e4 : m_stack (mS μ2 18 (hz_n ((fo - 1 : Nat) : Int))) (hz_n 9) (hz_n 0) (hz_n 0) = mS (mA (mA (mPop μ2 (fo - 1)) 37 (fo - 1) (hz_n (4096 * 9 + 0 : Nat))) 38 (fo - 1) (hz_n 0)) 18 (hz_n (fo - 1 + 1 : Nat)) := m_stF (w := 9) (a := 0) p18 (by omega) (by omega) (by omega)
        rw [e4]
      generalize hμ4 : mS (mA (mA (mPop μ2 (fo - 1)) 37 (fo - 1) (hz_n (4096 * 9 + 0 : Nat))) 38 (fo - 1) (hz_n 0)) 18 (hz_n (fo - 1 + 1 : Nat)) = μ4 at hgo
      have q1 : ∀ b, b ≠ 18 → μ4.1 b = μ2.1 b := by
        intro b hb; rw [← hμ4, mS1, if_neg hb, mA1, mA1]; unfold mPop; rw [mS1, if_neg hb]
      have q2 : ∀ b, b ≠ 37 → b ≠ 38 → μ4.2 b = μ2.2 b := by
        intro b b1 b2; rw [← hμ4, mS2, mA2n _ _ _ _ _ b2, mA2n _ _ _ _ _ b1]; rfl
      have q3 : ∀ j, j < fo - 1 → μ4.2 37 j = μ2.2 37 j ∧ μ4.2 38 j = μ2.2 38 j := by
        intro j hj; rw [← hμ4]; simp only [mS2, mA2]; simp [show ¬ j = fo - 1 by omega]; exact ⟨rfl, rfl⟩
      have hsame : bSame (fun _ => False) s (kS (kS κ2 9 (hz_n 1)) 8 (hz_n (40 * i + s_nx S (dl s i) (p + 1) : Nat)), μ4, s.2.2) := by
        refine ⟨rfl, ⟨k1 2 (by decide) (by decide) (by decide), k1 3 (by decide) (by decide) (by decide), k1 4 (by decide) (by decide) (by decide), k3, fun b b1 b2 => k2 b (by omega) (by omega), fun c _ => by show κ2.2.1 8 c = _; rw [k2 8 (by decide) (by decide)], fun c _ => by show κ2.2.1 9 c = _ ∧ κ2.2.1 10 c = _; rw [k2 9 (by decide) (by decide), k2 10 (by decide) (by decide)]; exact ⟨rfl, rfl⟩⟩, ?_, ?_, ?_, ?_, ?_, ?_, ?_⟩
        all_goals (try (show μ4.1 _ = _; rw [q1 _ (by decide), m1 _ (by decide) (by decide) (by decide) (by decide) (by decide)]))
        · intro b b1 b2 _; show μ4.2 b = _; rw [q2 b (by omega) (by omega), m2 b (by omega)]
        · intro j _; show μ4.2 33 j = _; rw [q2 33 (by decide) (by decide), m2 33 (by decide)]
      have I2 := bInv_same st I hsame
      have cn2 := bCnt_same hsame (bCnt_w hps hlt cnt)
      obtain ⟨hm1, hm2, _⟩ := I.2.2.2.2.1 _ _ a5
      obtain ⟨rm1, rm2, rm3⟩ := bRoom st I2 cap (by have := h1.1; omega) h1.1 (Nat.zero_le _) cn2
      obtain ⟨μ5, hμ5⟩ := m_need_ok I2 (f := fo - 1 + 1) ⟨hm1, hm2⟩ (by show μ4.1 18 = _; rw [← hμ4]; rfl) (by omega) (by omega)
      have hμ5' : m_need μ4 (hz_n (B (fo - 1))) = some μ5 := hμ5
      rw [hμ5'] at hgo
      have ef : fo - 1 + 1 = fo := by omega
      refine ⟨μ5, bRun_go h21 m22 (f := fo - 1) (by rw [ef]; exact m18) (by omega) hgo, Or.inl ⟨(kS (kS κ2 9 (hz_n 1)) 8 (hz_n (40 * i + s_nx S (dl s i) (p + 1) : Nat)), μ4, s.2.2), fo, fo - 1, n', wn + 1, 40 * i + s_nx S (dl s i) (p + 1), B (fo - 1), true, B, rfl, hlt, ⟨I2, ?_, h5, ?_, ?_, by omega, by omega, ⟨k7, rfl, rfl, by omega⟩, op, ?_, ⟨?_, ?_⟩, Or.inl ⟨rfl, by omega⟩, a5, hμ5', cn2⟩, ⟨?_, ?_⟩, ?_, ?_, ?_⟩⟩
      · refine ⟨?_, trivial, List.nodup_nil, fun c hc => absurd hc (by simp), fun i' p' hi' hc' hs' => ?_⟩
        · show κ2.1 1 = _; rw [k1 1 (by decide) (by decide) (by decide)]; exact K.1
        · have hs2 : κ2.2.1 6 (40 * i' + p') = hz_n 1 := hs'
          rw [k2 6 (by decide) (by decide)] at hs2
          exact K.2.2.2.2 i' p' hi' hc' hs2
      · show μ4.1 21 = _; rw [q1 21 (by decide)]; exact h21
      · exact ⟨h1.1, h1.2.1, by show μ4.1 12 = _; rw [q1 12 (by decide)]; exact h1.2.2.1, fun j hj => by show κ2.2.1 13 j = μ4.2 17 j; rw [q2 17 (by decide) (by decide)]; exact h1.2.2.2 j hj⟩
      · intro j hj
        show μ4.2 37 j = _ ∧ μ4.2 38 j = _
        rw [(q3 j hj).1, (q3 j hj).2]; exact re j (by omega)
      · show μ4.1 18 = _; rw [← hμ4]; rfl
      · show μ4.2 37 (fo - 1) = _; rw [← hμ4]; simp only [mS2, mA2]; simp
      · show κ2.1 0 = _; rw [k1 0 (by decide) (by decide) (by decide)]; exact kk.1
      · show κ2.2.1 1 = _; rw [k2 1 (by decide) (by decide)]; exact kk.2
      · show μ4.1 10 = _; rw [q1 10 (by decide), m1 10 (by decide) (by decide) (by decide) (by decide) (by decide)]; exact mm0.1
      · show μ4.1 11 = _; rw [q1 11 (by decide), m1 11 (by decide) (by decide) (by decide) (by decide) (by decide)]; exact mm0.2.1
      · show μ4.2 16 = _; rw [q2 16 (by decide) (by decide), m2 16 (by decide)]; exact mm0.2.2
    · -- LONG
      exact ⟨μ2, bRun_refl _ _, Or.inr ⟨Or.inl (by show κ2.1 5 ≠ _; rw [h5]; decide), Or.inl (by rw [h21]; decide), hfin _ (-5) 60 (fun b b8 b9 => by rw [kS1, if_neg b8, kS1, if_neg b9]) rfl (by omega) (by omega) h5 h21 h1⟩⟩

-- into a pair
theorem bPairG {E : Nat → Option zT} {dfs : Nat → Option Nat} {ST : Nat → Nat → Int32} {F l0 am fo n n' wn ps i p j : Nat} {S : zG} {s : zD} {κ0 : zK} {μ0 : zM} {κ2 κ' : zK} {μ2 : zM} {v : Int32} {a b : Int} {B : Nat → Int} (st : bSta E dfs ST F S) (cap : ∀ l, l < 26 → dfs l ≠ none → bCap S l)
    (I : bInv S dfs ST l0 am s) (K : bStk S s []) (hn60 : wn ≤ n) (hfo : fo ≤ n) (op : bOpens S s κ2 fo B) (re : bRests μ2 fo B) (hps : ps ≤ 12) (cnt : bCnt S s wn n 0 ps 0 0)
    (hlt : n < n') (hpg : bPg κ2 μ2 n') (h5 : κ2.1 5 = hz_n 0) (h21 : μ2.1 21 = hz_n 0)
    (ev : v = hz_n j) (hj : j + 1 < dnc s) (par : bPar S s i p a b) (e33a : (dm s).2 33 j = hz_n a) (e33b : (dm s).2 33 (j + 1) = hz_n b)
    (k1 : ∀ b, b ≠ 5 → b ≠ 6 → b ≠ 7 → b ≠ 8 → b ≠ 9 → κ2.1 b = (dk s).1 b) (k2 : ∀ b, b ≠ 13 → κ2.2.1 b = (dk s).2.1 b) (k3 : κ2.2.2 = (dk s).2.2) (kk : (dk s).1 0 = κ0.1 0 ∧ (dk s).2.1 1 = κ0.2.1 1)
    (c1 : ∀ b, b ≠ 7 → b ≠ 8 → b ≠ 9 → κ'.1 b = κ2.1 b) (c7 : κ'.1 7 = hz_n (fo + 1 : Nat)) (c8 : κ'.1 8 = hz_n (40 * i + (p + 1) : Nat)) (c9 : κ'.1 9 = hz_n 0) (c2 : ∀ b, b ≠ 14 → κ'.2.1 b = κ2.2.1 b) (c14 : ∀ x, κ'.2.1 14 x = if x = fo then hz_n (40 * i + p : Nat) else κ2.2.1 14 x) (c3 : κ'.2.2 = κ2.2.2)
    (m1 : ∀ b, b ≠ 12 → b ≠ 18 → b ≠ 21 → b ≠ 22 → b ≠ 24 → μ2.1 b = (dm s).1 b) (m2 : ∀ b, b ≠ 17 → μ2.2 b = (dm s).2 b) (m18 : μ2.1 18 = hz_n fo) (mm0 : (dm s).1 10 = μ0.1 10 ∧ (dm s).1 11 = μ0.1 11 ∧ (dm s).2 16 = μ0.2 16) :
    ∃ μ5, m_writePair μ2 v = some μ5 ∧ bIt S dfs ST F l0 am n κ0 μ0 κ' μ5 := by
  obtain ⟨j1, j2, j3, j4, j5, j6, j7, j8, j9, j10, j11, j12, j13, j14⟩ := id I.2.1
  have hn'60 := hpg.1
  obtain ⟨sh, hp40, _, hip⟩ := zsg st I par.1 par.2.1
  obtain ⟨_, kd0, kd1, _, _, ltt⟩ := bSh5 sh par.2.2.1
  have hq0 := (zsg st I par.1 kd0.1).2.2.2
  generalize hμ4 : mS (mA (mA (mS (mA (mA μ2 37 fo (hz_n (4096 * 8 + 0 : Nat))) 38 fo (hz_n b)) 18 (hz_n (fo + 1 : Nat))) 37 (fo + 1) (hz_n (4096 * 7 + 0 : Nat))) 38 (fo + 1) (hz_n 0)) 18 (hz_n (fo + 1 + 1 : Nat)) = μ4
  have q1 : ∀ b, b ≠ 18 → μ4.1 b = μ2.1 b := by
    intro b hb; rw [← hμ4, mS1, if_neg hb, mA1, mA1, mS1, if_neg hb]; rfl
  have q2 : ∀ b, b ≠ 37 → b ≠ 38 → μ4.2 b = μ2.2 b := by
    intro b b1 b2; rw [← hμ4, mS2, mA2n _ _ _ _ _ b2, mA2n _ _ _ _ _ b1, mS2, mA2n _ _ _ _ _ b2, mA2n _ _ _ _ _ b1]
  have q3 : ∀ j, j < fo → μ4.2 37 j = μ2.2 37 j ∧ μ4.2 38 j = μ2.2 38 j := by
    intro j hj; rw [← hμ4]; simp only [mS2, mA2]; simp [show ¬ j = fo + 1 by omega, show ¬ j = fo by omega]
  have q4 : μ4.2 37 fo = hz_n (4096 * 8 + 0 : Nat) ∧ μ4.2 38 fo = hz_n b ∧ μ4.2 37 (fo + 1) = hz_n (4096 * 7 + 0 : Nat) := by
    rw [← hμ4]; simp only [mS2, mA2]; simp
  have hsame : bSame (fun _ => False) s (κ', μ4, s.2.2) := by
    refine ⟨rfl, ⟨?_, ?_, ?_, by show κ'.2.2 = _; rw [c3]; exact k3, fun b b1 b2 => by show κ'.2.1 b = _; rw [c2 b (by omega), k2 b (by omega)], fun c _ => by show κ'.2.1 8 c = _; rw [c2 8 (by decide), k2 8 (by decide)], fun c _ => by show κ'.2.1 9 c = _ ∧ κ'.2.1 10 c = _; rw [c2 9 (by decide), k2 9 (by decide), c2 10 (by decide), k2 10 (by decide)]; exact ⟨rfl, rfl⟩⟩, ?_, ?_, ?_, ?_, ?_, ?_, ?_⟩
    · show κ'.1 2 = _; rw [c1 2 (by decide) (by decide) (by decide), k1 2 (by decide) (by decide) (by decide) (by decide) (by decide)]
    · show κ'.1 3 = _; rw [c1 3 (by decide) (by decide) (by decide), k1 3 (by decide) (by decide) (by decide) (by decide) (by decide)]
    · show κ'.1 4 = _; rw [c1 4 (by decide) (by decide) (by decide), k1 4 (by decide) (by decide) (by decide) (by decide) (by decide)]
    all_goals (try (show μ4.1 _ = _; rw [q1 _ (by decide), m1 _ (by decide) (by decide) (by decide) (by decide) (by decide)]))
    · intro b b1 b2 _; show μ4.2 b = _; rw [q2 b (by omega) (by omega), m2 b (by omega)]
    · intro j _; show μ4.2 33 j = _; rw [q2 33 (by decide) (by decide), m2 33 (by decide)]
  have I2 := bInv_same st I hsame
  have cn2 := bCnt_same hsame (bCnt_w hps hlt cnt)
  obtain ⟨hm1, hm2, _⟩ := I.2.2.2.2.1 _ _ par.2.2.2.1
  obtain ⟨rm1, rm2, rm3⟩ := bRoom st I2 cap (by omega) hn'60 (Nat.zero_le _) cn2
  obtain ⟨μ5, hμ5⟩ := m_need_ok I2 (f := fo + 1 + 1) ⟨hm1, hm2⟩ (by show μ4.1 18 = _; rw [← hμ4]; rfl) (by omega) (by omega)
  have hμ5' : m_need μ4 (hz_n a) = some μ5 := hμ5
  refine ⟨μ5, ?_, μ5, bRun_refl _ _, Or.inl ⟨(κ', μ4, s.2.2), fo + 1, fo + 1, n', wn + 1, 40 * i + (p + 1), a, false, fun x => if x = fo then b else B x, rfl, hlt, ⟨I2, ?_, ?_, ?_, ?_, by omega, by omega, ⟨c7, c8, c9, by omega⟩, ?_, ?_, ⟨?_, q4.2.2⟩, Or.inr ⟨rfl, rfl⟩, par.2.2.2.1, hμ5', cn2⟩, ⟨?_, ?_⟩, ?_, ?_, ?_⟩⟩
  · unfold m_writePair
    have e33b' : μ2.2 33 (j + 1) = hz_n b := by rw [m2 33 (by decide)]; exact e33b
    have s1 : m_stack μ2 (hz_n 8) (hz_n 0) (hz_n b) = mS (mA (mA μ2 37 fo (hz_n (4096 * 8 + 0 : Nat))) 38 fo (hz_n b)) 18 (hz_n (fo + 1 : Nat)) := m_stF (w := 8) (a := 0) m18 (by omega) (by omega) (by omega)
    have s2 : m_stack (mS (mA (mA μ2 37 fo (hz_n (4096 * 8 + 0 : Nat))) 38 fo (hz_n b)) 18 (hz_n (fo + 1 : Nat))) (hz_n 7) (hz_n 0) (hz_n 0) = μ4 := by
      rw [← hμ4]; exact m_stF (w := 7) (a := 0) rfl (by omega) (by omega) (by omega)
    have s3 : (mS (mA (mA μ2 37 fo (hz_n (4096 * 8 + 0 : Nat))) 38 fo (hz_n b)) 18 (hz_n (fo + 1 : Nat))).1 18 = hz_n (fo + 1 : Nat) := rfl
    have e33a' : μ4.2 33 j = hz_n a := by rw [q2 33 (by decide) (by decide), m2 33 (by decide)]; exact e33a
    rw [h21, zn_ti (by omega), if_pos rfl, ev, zn1, zt (j + 1) (by omega), zgd_t (by omega), m18, zt fo (by omega), zgd_t (by omega), Int.toNat_natCast, e33b', s1, s3, zt (fo + 1) (by omega), zgd_t (by omega), zt j (by omega), zgd_t (by omega), s2, Int.toNat_natCast, e33a']
    exact hμ5'
  · refine ⟨?_, trivial, List.nodup_nil, fun c hc => absurd hc (by simp), fun i' p' hi' hc' hs' => ?_⟩
    · show κ'.1 1 = _; rw [c1 1 (by decide) (by decide) (by decide), k1 1 (by decide) (by decide) (by decide) (by decide) (by decide)]; exact K.1
    · have hs2 : κ'.2.1 6 (40 * i' + p') = hz_n 1 := hs'
      rw [c2 6 (by decide), k2 6 (by decide)] at hs2
      exact K.2.2.2.2 i' p' hi' hc' hs2
  · show κ'.1 5 = _; rw [c1 5 (by decide) (by decide) (by decide)]; exact h5
  · show μ4.1 21 = _; rw [q1 21 (by decide)]; exact h21
  · exact ⟨hn'60, by show κ'.1 6 = _; rw [c1 6 (by decide) (by decide) (by decide)]; exact hpg.2.1, by show μ4.1 12 = _; rw [q1 12 (by decide)]; exact hpg.2.2.1, fun j hj => by show κ'.2.1 13 j = μ4.2 17 j; rw [c2 13 (by decide), q2 17 (by decide) (by decide)]; exact hpg.2.2.2 j hj⟩
  · intro y hy
    by_cases e : y = fo
    · refine ⟨i, p, by show κ'.2.1 14 y = _; rw [c14, if_pos e], par.1, par.2.1, par.2.2.1, ?_⟩
      show dg s _ = some (if y = fo then b else B y)
      rw [if_pos e]; exact par.2.2.2.2
    · obtain ⟨i', p', b1, b2, b3, b4, b5⟩ := op y (by omega)
      refine ⟨i', p', by show κ'.2.1 14 y = _; rw [c14, if_neg e]; exact b1, b2, b3, b4, ?_⟩
      show dg s _ = some (if y = fo then b else B y)
      rw [if_neg e]; exact b5
  · intro y hy
    show μ4.2 37 y = _ ∧ μ4.2 38 y = hz_n (if y = fo then b else B y)
    by_cases e : y = fo
    · rw [if_pos e, e]; exact ⟨q4.1, q4.2.1⟩
    · rw [if_neg e, (q3 y (by omega)).1, (q3 y (by omega)).2]; exact re y (by omega)
  · show μ4.1 18 = _; rw [← hμ4]; rfl
  · show κ'.1 0 = _; rw [c1 0 (by decide) (by decide) (by decide), k1 0 (by decide) (by decide) (by decide) (by decide) (by decide)]; exact kk.1
  · show κ'.2.1 1 = _; rw [c2 1 (by decide), k2 1 (by decide)]; exact kk.2
  · show μ4.1 10 = _; rw [q1 10 (by decide), m1 10 (by decide) (by decide) (by decide) (by decide) (by decide)]; exact mm0.1
  · show μ4.1 11 = _; rw [q1 11 (by decide), m1 11 (by decide) (by decide) (by decide) (by decide) (by decide)]; exact mm0.2.1
  · show μ4.2 16 = _; rw [q2 16 (by decide) (by decide), m2 16 (by decide)]; exact mm0.2.2

def mN (μ : zM) (fo : Nat) : zM := m_nothing (mPop μ fo)
theorem mN_1 {μ : zM} {fo b : Nat} (h : b ≠ 18) (h' : b ≠ 22) (h'' : b ≠ 24) : (mN μ fo).1 b = μ.1 b := by
  unfold mN m_nothing mPop; rw [mS1, if_neg h'', mS1, if_neg h', mS1, if_neg h]
theorem mN_2 {μ : zM} {fo : Nat} : (mN μ fo).2 = μ.2 := rfl
theorem bTurn {E : Nat → Option zT} {dfs : Nat → Option Nat} {ST : Nat → Nat → Int32} {F l0 am o fo n wn t : Nat} {S : zG} {s : zD} {κ0 : zK} {μ0 : zM} {k v : Int32} {go : Bool} {B : Nat → Int} (st : bSta E dfs ST F S) (cap : ∀ l, l < 26 → dfs l ≠ none → bCap S l)
    (I : bInv S dfs ST l0 am s) (K : bStk S s []) (h5 : (dk s).1 5 = hz_n 0) (h21 : (dm s).1 21 = hz_n 0) (hpg : bPg (dk s) (dm s) n) (hwn : wn ≤ n) (hon : o ≤ n) (k7 : (dk s).1 7 = hz_n o) (k9 : (dk s).1 9 = hz_n (if go then 1 else 0)) (op : bOpens S s (dk s) o B) (re : bRests (dm s) fo B)
    (r18 : (dm s).1 18 = hz_n (fo + 1 : Nat)) (frm : (dm s).2 37 fo = hz_n (4096 * (if go then 9 else 7) + 0 : Nat)) (hof : (go = true ∧ o = fo + 1) ∨ (go = false ∧ o = fo)) (r22 : (dm s).1 22 = hz_n (-1)) (r24 : (dm s).1 24 = k) (r25 : (dm s).1 25 = v)
    (vr : bVR S dfs s (ks s t) (kv s t) k v) (cnt : bCnt S s wn n 0 (psi (dm s) k v) 0 0) (kk : (dk s).1 0 = κ0.1 0 ∧ (dk s).2.1 1 = κ0.2.1 1) (mm0 : (dm s).1 10 = μ0.1 10 ∧ (dm s).1 11 = μ0.1 11 ∧ (dm s).2 16 = μ0.2 16) :
    ∃ κ', (if go then g_writeRest (dk s) E (ks s t) (kv s t) else g_writeValue (dk s) E (ks s t) (kv s t)) = some κ' ∧ bIt S dfs ST F l0 am n κ0 μ0 κ' (dm s) := by
  have hn6 := hpg.1
  have hle := b_le I
  obtain ⟨j1, j2, j3, j4, j5, j6, j7, j8, j9, j10, j11, j12, j13, j14⟩ := id I.2.1
  have hps := psi_le (dm s) k v
  have hP : bPut (dk s) (mN (dm s) fo) := Or.inl ⟨n, ⟨hpg.1, hpg.2.1, by rw [mN_1 (by decide) (by decide) (by decide)]; exact hpg.2.2.1, hpg.2.2.2⟩, h5, by rw [mN_1 (by decide) (by decide) (by decide)]; exact h21⟩
  have hPn : bPg (dk s) (mN (dm s) fo) n := ⟨hpg.1, hpg.2.1, by rw [mN_1 (by decide) (by decide) (by decide)]; exact hpg.2.2.1, hpg.2.2.2⟩
  have n18 : (mN (dm s) fo).1 18 = hz_n fo := rfl
  have n22 : (mN (dm s) fo).1 22 = hz_n (-1) := rfl
  -- what a change of the page leaves
  have L1 : ∀ {μ2 : zM}, mOth (mN (dm s) fo) μ2 → (∀ b, b ≠ 12 → b ≠ 18 → b ≠ 21 → b ≠ 22 → b ≠ 24 → μ2.1 b = (dm s).1 b) ∧ (∀ b, b ≠ 17 → μ2.2 b = (dm s).2 b) ∧ μ2.1 18 = hz_n fo ∧ μ2.1 22 = hz_n (-1) ∧ bRests μ2 fo B := by
    intro μ2 h
    refine ⟨fun b b1 b2 b3 b4 b5 => by rw [h.1 b b1 b3, mN_1 b2 b4 b5], fun b hb => by rw [h.2 b hb, mN_2], by rw [h.1 18 (by decide) (by decide)]; exact n18, by rw [h.1 22 (by decide) (by decide)]; exact n22, fun j hj => ?_⟩
    rw [h.2 37 (by decide), h.2 38 (by decide), mN_2]; exact re j hj
  have L2 : ∀ {κ2 : zK} {μ2 : zM} {j : Nat}, bMore (dk s) (mN (dm s) fo) κ2 μ2 (j + 1) → κ2.1 5 = hz_n 0 → ∃ n', n < n' ∧ bPg κ2 μ2 n' := by
    intro κ2 μ2 j hm h
    obtain ⟨_, n1, n', a1, a2, a3⟩ := hm h
    have := bPg_u a2 hPn
    exact ⟨n', by omega, a3⟩
  have hfoo : fo ≤ n := by rcases hof with h | h <;> omega
  have opf : ∀ {κ2 : zK}, (∀ b, b ≠ 13 → κ2.2.1 b = (dk s).2.1 b) → bOpens S s κ2 fo B := by
    intro κ2 h j hj
    have := op j (by rcases hof with h | h <;> omega)
    rw [h 14 (by decide)]; exact this
  have hgw : m_goOn (dm s) F = m_go2 (mPop (dm s) fo) F (hz_n ((if go then 9 else 7 : Nat) : Int)) (hz_n ((0 : Nat) : Int)) ((dm s).2 38 fo) := by
    refine m_goF (f := fo) (w := if go then 9 else 7) (a := 0) r18 (by omega) ?_ rfl (by split <;> omega) (by omega)
    rw [frm]
  have p24 : (mPop (dm s) fo).1 24 = k := r24
  have p25 : (mPop (dm s) fo).1 25 = v := r25
  have hrun : ∀ {μ2 : zM}, m_goOn (dm s) F = some μ2 → bRun F (dm s) μ2 := fun h => bRun_go h21 r22 r18 (by omega) h
  -- an end on both sides
  have hend : ∀ (κ' : zK) (μ2 : zM) (z : Int) (n' : Nat), -5 ≤ z → z < 0 → κ'.1 5 = hz_n z → μ2.1 21 = hz_n z → bPg κ' μ2 n' → (∀ b, b = 0 ∨ b = 4 → κ'.1 b = (dk s).1 b) → κ'.2.1 1 = (dk s).2.1 1 → κ'.2.2 = (dk s).2.2 → (∀ b, b = 10 ∨ b = 11 ∨ b = 20 → μ2.1 b = (dm s).1 b) → (∀ b, b ≠ 17 → μ2.2 b = (dm s).2 b) → m_goOn (dm s) F = some μ2 → bIt S dfs ST F l0 am n κ0 μ0 κ' (dm s) := by
    intro κ' μ2 z n' z1 z2 e1 e2 e3 e4 e5 e6 e7 e8 e9
    refine ⟨μ2, hrun e9, Or.inr ⟨Or.inl (by rw [e1]; intro h; have := zn_inj (by omega) (by omega) h; omega), Or.inl (by rw [e2]; intro h; have := zn_inj (by omega) (by omega) h; omega), z, n', z1, by omega, e1, e2, e3, ⟨de s, hle, by rw [e4 4 (by omega)]; exact j1, by rw [e7 20 (by omega)]; exact j2⟩, ⟨by rw [e4 0 (by omega)]; exact kk.1, by rw [e5]; exact kk.2, by rw [e6]; exact I.1.2⟩, by rw [e7 10 (by omega)]; exact mm0.1, by rw [e7 11 (by omega)]; exact mm0.2.1, by rw [e8 16 (by decide)]; exact mm0.2.2, fun b b1 b2 => by rw [e8 b (by omega)]; exact I.1.1 b b1 b2⟩⟩
  cases go with
  | false =>
    have hof' : o = fo := by
      rcases hof with ⟨h, _⟩ | ⟨_, h⟩
      · exact absurd h (by decide)
      · exact h
    subst hof'
    have hw : m_goOn (dm s) F = m_write (mPop (dm s) o) := by
      rw [hgw]
      unfold m_go2
      have t7 : (hz_n (((if false = true then 9 else 7 : Nat)) : Int)).toInt = 7 := zn_ti (by decide)
      rw [t7, if_neg (by omega), if_neg (by omega), if_neg (by omega), if_pos rfl]
    have hcls : ∀ x, (if false = true then g_writeRest (dk s) E (ks s t) (kv s t) else g_writeValue (dk s) E (ks s t) (kv s t)) = x ↔ g_writeValue (dk s) E (ks s t) (kv s t) = x := fun x => by rw [if_neg (by decide)]
    unfold m_write at hw
    rw [p24, p25] at hw
    -- behind a value
    have after : ∀ (κ2 : zK) (μ2 : zM), m_goOn (dm s) F = some μ2 → bPut κ2 μ2 → kOth (dk s) κ2 → mOth (mN (dm s) o) μ2 → (∃ j, bMore (dk s) (mN (dm s) o) κ2 μ2 (j + 1)) → ∃ κ', g_goOn κ2 E = some κ' ∧ bIt S dfs ST F l0 am n κ0 μ0 κ' (dm s) := by
      intro κ2 μ2 hg hp ko mo ⟨j, hmo⟩
      obtain ⟨l1, l2, l3, l4, l5⟩ := L1 mo
      obtain ⟨κ', a1, μ', a2, a3⟩ := bAfter (κ0 := κ0) (μ0 := μ0) st cap I K hwn hn6 hon (opf ko.2.1) l5 hps cnt hp (L2 hmo) (fun b b1 b2 _ => ko.1 b b1 b2) (by rw [ko.1 7 (by decide) (by decide)]; exact k7) (fun b b1 _ => ko.2.1 b b1) ko.2.2 kk l1 l2 l3 l4 mm0
      exact ⟨κ', a1, μ', bRun_trans (hrun hg) a2, a3⟩
    have hcl4 : ∀ {y : Int}, ks s t = hz_n y → -100 ≤ y ∧ y ≤ 100 → (ks s t).toInt = y := fun h hy => by rw [h]; exact zn_ti (by omega)
    rcases vr with ⟨x1, x2, x3⟩ | ⟨x1, x2⟩ | ⟨x1, x2, i, p, j, a, b, y1, y2, y3, y4, y5, y6⟩ | ⟨x1, x2, x3⟩
    · -- a number
      obtain ⟨κ2, μ2, a1, a2, a3, a4, a5, a6⟩ := bPutN (x := v) hP
      have hx : k.toInt = 0 := by rw [x2]; exact zn_ti (by omega)
      rw [hx, if_pos rfl] at hw
      have hw' : m_goOn (dm s) F = some μ2 := by rw [hw]; exact a2
      obtain ⟨κ', b1, b2⟩ := after κ2 μ2 hw' a3 a4 a5 ⟨0, a6⟩
      refine ⟨κ', ?_, b2⟩
      rw [hcls]
      unfold g_writeValue
      rw [hcl4 x1 (by omega), if_neg (by omega), if_pos rfl, x3, a1, Option.bind_some]; exact b1
    · -- the empty list
      obtain ⟨q, a1, a2, a3, a4, a5, _⟩ := bPut1 (x := hz_n 91) hP
      obtain ⟨q', c1, c2, c3, c4, c5, _⟩ := bPut1 (x := hz_n 93) a2
      have hx : k.toInt = 1 := by rw [x2]; exact zn_ti (by omega)
      rw [hx, if_neg (by omega), if_neg (by omega), if_pos rfl] at hw
      have hw' : m_goOn (dm s) F = some (m_put (m_put (mN (dm s) o) (hz_n 91)) (hz_n 93)) := by
        rw [hw]
        show zgd (0 ≤ ((mN (dm s) o).1 12).toInt ∧ ((mN (dm s) o).1 12).toInt ≤ 60) (zgd (0 ≤ ((m_put (mN (dm s) o) (hz_n 91)).1 12).toInt ∧ ((m_put (mN (dm s) o) (hz_n 91)).1 12).toInt ≤ 60) (some (m_put (m_put (mN (dm s) o) (hz_n 91)) (hz_n 93)))) = _
        rw [zgd_t a5, zgd_t c5]
      obtain ⟨κ', b1, b2⟩ := after q'.2 _ hw' c2 (kOth_t a3 c3) (mOth_t a4 c4) ⟨1, bMore_t (bMore1 hP a1) (bMore1 a2 c1)⟩
      refine ⟨κ', ?_, b2⟩
      rw [hcls]
      unfold g_writeValue
      rw [hcl4 x1 (by omega), if_neg (by omega), if_neg (by omega), if_pos rfl, a1, Option.bind_some, c1, Option.bind_some]; exact b1
    · -- a pair
      obtain ⟨q, a1, a2, a3, a4, a5, a6, a7, a8, a9⟩ := bPut1 (x := hz_n 91) hP
      have hx : k.toInt = 2 := by rw [x2]; exact zn_ti (by omega)
      rw [hx, if_neg (by omega), if_neg (by omega), if_neg (by omega)] at hw
      have hw' : m_goOn (dm s) F = m_writePair (m_put (mN (dm s) o) (hz_n 91)) v := by
        rw [hw]
        show zgd (0 ≤ ((mN (dm s) o).1 12).toInt ∧ ((mN (dm s) o).1 12).toInt ≤ 60) (m_writePair (m_put (mN (dm s) o) (hz_n 91)) v) = _
        rw [zgd_t a5]
      obtain ⟨l1, l2, l3, l4, l5⟩ := L1 a4
      rcases a7 with hq | hq
      · have hq5 := a6.mpr hq
        have h21' : (m_put (mN (dm s) o) (hz_n 91)).1 21 = hz_n 0 := by
          rcases a2 with ⟨_, _, _, h⟩ | ⟨_, h, _⟩
          · exact h
          · rw [hq5] at h; exact absurd h (by decide)
        have hpg2 := a8 n hPn hq h5
        have hn1 := hpg2.1
        obtain ⟨μ5, b1, μ6, b2, b3⟩ := bPairG (F := F) (κ0 := κ0) (μ0 := μ0) (κ' := kS (kS (kA q.2 14 o (hz_n (40 * i + p : Nat))) 7 (hz_n (o + 1 : Nat))) 8 (hz_n (40 * i + (p + 1) : Nat))) st cap I K hwn hon (opf a3.2.1) l5 hps cnt (Nat.lt_succ_self n) hpg2 hq5 h21' y2 y3 y4 y5 y6 (fun b b1 b2 _ _ _ => a3.1 b b1 b2) a3.2.1 a3.2.2 kk (fun b b7 b8 b9 => by rw [kS1, if_neg b8, kS1, if_neg b7]; rfl) rfl rfl (by show q.2.1 9 = _; rw [a3.1 9 (by decide) (by decide)]; exact k9) (fun b hb => by rw [kS2, kS2, kA2n _ _ _ _ _ hb]) (fun x => by rw [kS2, kS2, kA2]; simp) rfl l1 l2 l3 mm0
        rw [b1] at hw'
        refine ⟨kS (kS (kA q.2 14 o (hz_n (40 * i + p : Nat))) 7 (hz_n (o + 1 : Nat))) 8 (hz_n (40 * i + (p + 1) : Nat)), ?_, μ6, bRun_trans (hrun hw') b2, b3⟩
        rw [hcls]
        unfold g_writeValue g_head
        have t1 : (hz_n 1).toInt = 1 := zn_ti (by omega)
        have q7 : q.2.1 7 = hz_n o := by rw [a3.1 7 (by decide) (by decide)]; exact k7
        rw [hcl4 x1 (by omega), if_pos rfl, a1, Option.bind_some, hq, t1, if_neg (by omega), q7, zt o (by omega), zgd_t (by omega), Option.bind_some, Int.toNat_natCast, y1, zn1p, zn1]
      · have hq5 := a9 hq
        have hP2 : bPg q.2 (m_put (mN (dm s) o) (hz_n 91)) 60 ∧ (m_put (mN (dm s) o) (hz_n 91)).1 21 = hz_n (-5) := by
          rcases a2 with ⟨_, _, h, _⟩ | ⟨h, _, h'⟩
          · rw [hq5] at h; exact absurd h (by decide)
          · exact ⟨h, h'⟩
        have hwp : m_writePair (m_put (mN (dm s) o) (hz_n 91)) v = some (m_put (mN (dm s) o) (hz_n 91)) := by
          unfold m_writePair; rw [hP2.2, zn_ti (by omega), if_neg (by omega)]
        rw [hwp] at hw'
        refine ⟨q.2, ?_, hend q.2 _ (-5) 60 (by omega) (by omega) hq5 hP2.2 hP2.1 (fun b hb => a3.1 b (by omega) (by omega)) (a3.2.1 1 (by decide)) a3.2.2 (fun b hb => l1 b (by omega) (by omega) (by omega) (by omega) (by omega)) l2 hw'⟩
        rw [hcls]
        unfold g_writeValue
        have t0 : (hz_n 0).toInt = 0 := zn_ti (by omega)
        rw [hcl4 x1 (by omega), if_pos rfl, a1, Option.bind_some, hq, t0, if_pos rfl]
    · -- a function
      obtain ⟨q, a1, a2, a3, a4, a5, _⟩ := bPut1 (x := hz_n 92) hP
      have hx : k.toInt = 3 := by rw [x2]; exact zn_ti (by omega)
      rw [hx, if_neg (by omega), if_pos rfl] at hw
      have hw' : m_goOn (dm s) F = some (m_put (mN (dm s) o) (hz_n 92)) := by
        rw [hw]
        show zgd (0 ≤ ((mN (dm s) o).1 12).toInt ∧ ((mN (dm s) o).1 12).toInt ≤ 60) (some (m_put (mN (dm s) o) (hz_n 92))) = _
        rw [zgd_t a5]
      obtain ⟨κ', b1, b2⟩ := after q.2 _ hw' a2 a3 a4 ⟨0, bMore1 hP a1⟩
      refine ⟨κ', ?_, b2⟩
      rw [hcls]
      unfold g_writeValue
      rw [hcl4 x1 (by omega), if_neg (by omega), if_neg (by omega), if_neg (by omega), a1, Option.bind_some]; exact b1
  | true =>
    have hof' : o = fo + 1 := by
      rcases hof with ⟨_, h⟩ | ⟨h, _⟩
      · exact h
      · exact absurd h (by decide)
    subst hof'
    have hw : m_goOn (dm s) F = m_tail (mPop (dm s) fo) := by
      rw [hgw]
      unfold m_go2
      have t7 : (hz_n (((if true = true then 9 else 7 : Nat)) : Int)).toInt = 9 := zn_ti (by decide)
      rw [t7, if_neg (by omega), if_neg (by omega), if_neg (by omega), if_neg (by omega), if_neg (by omega), if_pos rfl]
    have hcls : ∀ x, (if true = true then g_writeRest (dk s) E (ks s t) (kv s t) else g_writeValue (dk s) E (ks s t) (kv s t)) = x ↔ g_writeRest (dk s) E (ks s t) (kv s t) = x := fun x => by rw [if_pos rfl]
    unfold m_tail at hw
    rw [p24, p25] at hw
    have hcl4 : ∀ {y : Int}, ks s t = hz_n y → -100 ≤ y ∧ y ≤ 100 → (ks s t).toInt = y := fun h hy => by rw [h]; exact zn_ti (by omega)
    -- neither a pair nor the empty list
    have bad : ks s t ≠ hz_n 4 → ks s t ≠ hz_n 3 → k ≠ hz_n 1 → k ≠ hz_n 2 → ∃ κ', (if true = true then g_writeRest (dk s) E (ks s t) (kv s t) else g_writeValue (dk s) E (ks s t) (kv s t)) = some κ' ∧ bIt S dfs ST F l0 am n κ0 μ0 κ' (dm s) := by
      intro x4 x3 z1 z2
      rw [if_neg (fun e => z1 ((zkt (by omega)).mp e)), if_neg (fun e => z2 ((zkt (by omega)).mp e))] at hw
      have hw' : m_goOn (dm s) F = some (mS (mN (dm s) fo) 21 (hz_n (-3))) := hw
      refine ⟨kS (dk s) 5 (hz_n (-3)), ?_, hend (kS (dk s) 5 (hz_n (-3))) (mS (mN (dm s) fo) 21 (hz_n (-3))) (-3) n (by omega) (by omega) rfl rfl ⟨hPn.1, hPn.2.1, hPn.2.2.1, hPn.2.2.2⟩ (fun b hb => by rw [kS1, if_neg (by omega)]) rfl rfl (fun b hb => by rw [mS1, if_neg (by omega), mN_1 (by omega) (by omega) (by omega)]) (fun b _ => by rw [mS2, mN_2]) hw'⟩
      rw [hcls]
      unfold g_writeRest
      rw [if_neg (fun e => x4 ((zkt (by omega)).mp e)), if_neg (fun e => x3 ((zkt (by omega)).mp e))]
    rcases vr with ⟨x1, x2, x3⟩ | ⟨x1, x2⟩ | ⟨x1, x2, i, p, j, a, b, y1, y2, y3, y4, y5, y6⟩ | ⟨x1, x2, x3⟩
    · exact bad (by rw [x1]; decide) (by rw [x1]; decide) (by rw [x2]; decide) (by rw [x2]; decide)
    · -- the end of a list
      obtain ⟨q, a1, a2, a3, a4, a5, a6⟩ := bPut1 (x := hz_n 93) hP
      have hx : k.toInt = 1 := by rw [x2]; exact zn_ti (by omega)
      rw [hx, if_pos rfl] at hw
      have hw' : m_goOn (dm s) F = some (m_put (mN (dm s) fo) (hz_n 93)) := by
        rw [hw]
        show zgd (0 ≤ ((mN (dm s) fo).1 12).toInt ∧ ((mN (dm s) fo).1 12).toInt ≤ 60) (some (m_put (mN (dm s) fo) (hz_n 93))) = _
        rw [zgd_t a5]
      obtain ⟨l1, l2, l3, l4, l5⟩ := L1 a4
      have q7 : q.2.1 7 - hz_n 1 = hz_n fo := by
        rw [a3.1 7 (by decide) (by decide), k7, zn_sub]; congr 1; omega
      have hm1 := bMore1 hP a1
      have hpu : bPut (kS q.2 7 (hz_n fo)) (m_put (mN (dm s) fo) (hz_n 93)) := by
        rcases a2 with ⟨n', h1, h2, h3⟩ | ⟨h1, h2, h3⟩
        · exact Or.inl ⟨n', ⟨h1.1, h1.2.1, h1.2.2.1, h1.2.2.2⟩, h2, h3⟩
        · exact Or.inr ⟨⟨h1.1, h1.2.1, h1.2.2.1, h1.2.2.2⟩, h2, h3⟩
      obtain ⟨κ', b1, μ', b2, b3⟩ := bAfter (κ2 := kS q.2 7 (hz_n fo)) (F := F) (κ0 := κ0) (μ0 := μ0) st cap I K hwn hn6 hfoo (opf (κ2 := kS q.2 7 (hz_n fo)) a3.2.1) l5 hps cnt hpu (fun h => by
        obtain ⟨n', c1, c2⟩ := L2 (j := 0) hm1 h
        exact ⟨n', c1, ⟨c2.1, c2.2.1, c2.2.2.1, c2.2.2.2⟩⟩) (fun b b1 b2 b3 => by rw [kS1, if_neg b3]; exact a3.1 b b1 b2) rfl (fun b b1 _ => a3.2.1 b b1) a3.2.2 kk l1 l2 l3 l4 mm0
      refine ⟨κ', ?_, μ', bRun_trans (hrun hw') b2, b3⟩
      rw [hcls]
      unfold g_writeRest
      rw [hcl4 x1 (by omega), if_neg (by omega), if_pos rfl, a1, Option.bind_some, q7]; exact b1
    · -- a further pair
      obtain ⟨q, a1, a2, a3, a4, a5, a6, a7, a8, a9⟩ := bPut1 (x := hz_n 44) hP
      have hx : k.toInt = 2 := by rw [x2]; exact zn_ti (by omega)
      rw [hx, if_neg (by omega), if_pos rfl] at hw
      have hw' : m_goOn (dm s) F = m_writePair (m_put (mN (dm s) fo) (hz_n 44)) v := by
        rw [hw]
        show zgd (0 ≤ ((mN (dm s) fo).1 12).toInt ∧ ((mN (dm s) fo).1 12).toInt ≤ 60) (m_writePair (m_put (mN (dm s) fo) (hz_n 44)) v) = _
        rw [zgd_t a5]
      obtain ⟨l1, l2, l3, l4, l5⟩ := L1 a4
      have q7 : q.2.1 7 = hz_n (fo + 1 : Nat) := by rw [a3.1 7 (by decide) (by decide)]; exact k7
      have q7' : q.2.1 7 - hz_n 1 = hz_n fo := by rw [q7, zn_sub]; congr 1; omega
      have hcl : (if true = true then g_writeRest (dk s) E (ks s t) (kv s t) else g_writeValue (dk s) E (ks s t) (kv s t)) = some (kS (kS (kA q.2 14 fo (hz_n (40 * i + p : Nat))) 8 (hz_n (40 * i + (p + 1) : Nat))) 9 (hz_n 0)) := by
        rw [hcls]
        unfold g_writeRest g_head
        rw [hcl4 x1 (by omega), if_pos rfl, a1, Option.bind_some, q7', zt fo (by omega), zgd_t (by omega), Option.bind_some, Int.toNat_natCast, y1, zn1p]
      rcases a7 with hq | hq
      · have hq5 := a6.mpr hq
        have h21' : (m_put (mN (dm s) fo) (hz_n 44)).1 21 = hz_n 0 := by
          rcases a2 with ⟨_, _, _, h⟩ | ⟨_, h, _⟩
          · exact h
          · rw [hq5] at h; exact absurd h (by decide)
        have hpg2 := a8 n hPn hq h5
        obtain ⟨μ5, b1, μ6, b2, b3⟩ := bPairG (F := F) (κ0 := κ0) (μ0 := μ0) (κ' := kS (kS (kA q.2 14 fo (hz_n (40 * i + p : Nat))) 8 (hz_n (40 * i + (p + 1) : Nat))) 9 (hz_n 0)) st cap I K hwn hfoo (opf a3.2.1) l5 hps cnt (Nat.lt_succ_self n) hpg2 hq5 h21' y2 y3 y4 y5 y6 (fun b b1 b2 _ _ _ => a3.1 b b1 b2) a3.2.1 a3.2.2 kk (fun b b7 b8 b9 => by rw [kS1, if_neg b9, kS1, if_neg b8]; rfl) q7 rfl rfl (fun b hb => by rw [kS2, kS2, kA2n _ _ _ _ _ hb]) (fun x => by rw [kS2, kS2, kA2]; simp) rfl l1 l2 l3 mm0
        rw [b1] at hw'
        exact ⟨_, hcl, μ6, bRun_trans (hrun hw') b2, b3⟩
      · have hq5 := a9 hq
        have hP2 : bPg q.2 (m_put (mN (dm s) fo) (hz_n 44)) 60 ∧ (m_put (mN (dm s) fo) (hz_n 44)).1 21 = hz_n (-5) := by
          rcases a2 with ⟨_, _, h, _⟩ | ⟨h, _, h'⟩
          · rw [hq5] at h; exact absurd h (by decide)
          · exact ⟨h, h'⟩
        have hwp : m_writePair (m_put (mN (dm s) fo) (hz_n 44)) v = some (m_put (mN (dm s) fo) (hz_n 44)) := by
          unfold m_writePair; rw [hP2.2, zn_ti (by omega), if_neg (by omega)]
        rw [hwp] at hw'
        refine ⟨_, hcl, hend _ _ (-5) 60 (by omega) (by omega) hq5 hP2.2 ⟨hP2.1.1, hP2.1.2.1, hP2.1.2.2.1, fun x hx => ?_⟩ (fun b hb => ?_) ?_ a3.2.2 (fun b hb => l1 b (by omega) (by omega) (by omega) (by omega) (by omega)) l2 hw'⟩
        · rw [kS2, kS2, kA2n _ _ _ _ _ (by decide)]; exact hP2.1.2.2.2 x hx
        · rw [kS1, if_neg (by omega), kS1, if_neg (by omega), kA1]; exact a3.1 b (by omega) (by omega)
        · rw [kS2, kS2, kA2n _ _ _ _ _ (by decide)]; exact a3.2.1 1 (by decide)
    · exact bad (by rw [x1]; decide) (by rw [x1]; decide) (by rw [x2]; decide) (by rw [x2]; decide)

-- how the whole run comes to its end
def bOver (dfs : Nat → Option Nat) (ST : Nat → Nat → Int32) (F : Nat) (κ0 : zK) (μ0 : zM) (κ' : zK) (μ : zM) : Prop := ∃ μ', bRun F μ μ' ∧ bStop μ' ∧ bEndW dfs ST κ0 μ0 κ' μ'
theorem g_wl_end {E : Nat → Option zT} {κ : zK} {f k : Nat} (hk : k < 1000000) (h : κ.1 5 ≠ hz_n 0 ∨ κ.1 8 = hz_n (-1)) : g_wl E (f + 1) κ (hz_n k) = some κ := by
  rw [g_wl, zt k (by omega), if_neg (by omega)]
  by_cases h8 : κ.1 8 = hz_n (-1)
  · rw [h8, zn_ti (by omega), if_pos rfl]
  · rcases h with h | h
    · rw [if_neg (fun e => h8 ((zkt (by omega)).mp e))]
      have hne : ¬ (κ.1 5).toInt = 0 := fun e => h ((zkt (by omega)).mp e)
      have e1 : g_need κ E (κ.1 8) = some (hz_n 0, κ) := by
        unfold g_need g_nf; rw [if_neg hne, if_neg hne]
      rw [e1, Option.bind_some]
      dsimp only
      rw [zn_ti (by omega), if_pos rfl]
    · exact absurd h h8
theorem g_wlT {E : Nat → Option zT} {dfs : Nat → Option Nat} {ST : Nat → Nat → Int32} {F l0 am : Nat} {S : zG} {κ0 : zK} {μ0 : zM} (hF : 951 ≤ F) (st : bSta E dfs ST F S) (cap : ∀ l, l < 26 → dfs l ≠ none → bCap S l) :
    ∀ (d f k : Nat) (s : zD) (μ : zM) (o fo n wn t : Nat) (m : Int) (go : Bool) (B : Nat → Int), 61 ≤ n + d → k + d < 999990 → d + 2 < f → bWr S dfs ST l0 am s μ o fo n wn t m go B → ((dk s).1 0 = κ0.1 0 ∧ (dk s).2.1 1 = κ0.2.1 1) → ((dm s).1 10 = μ0.1 10 ∧ (dm s).1 11 = μ0.1 11 ∧ (dm s).2 16 = μ0.2 16) →
      ∃ κ', g_wl E f (dk s) (hz_n k) = some κ' ∧ bOver dfs ST F κ0 μ0 κ' μ := by
  intro d
  induction d with
  | zero =>
    intro f k s μ o fo n wn t m go B hd _ _ H _ _
    have := H.2.2.2.2.1.1
    omega
  | succ d ih =>
    intro f k s μ o fo n wn t m go B hd hk hf H kk mm0
    obtain ⟨f, rfl⟩ : ∃ f', f = f' + 1 := ⟨f - 1, by omega⟩
    obtain ⟨I, K, h5, h21, hpg, hwn, hon, ⟨k7, k8, k9, ht⟩, op, re, ⟨r18, frm⟩, hof, hg, hnd, cnt⟩ := H
    have hn6 := hpg.1
    have hfo : fo ≤ n := by rcases hof with h | h <;> omega
    obtain ⟨b, κ1, g1, μ1, run1, out⟩ := bNeedT (f0 := fo + 1) hF st cap (by omega) hn6 (by omega) I K h5 h21 r18 hg hnd cnt
    rw [g_wl, zt k (by omega), if_neg (by omega), k8, zt t (by omega), if_neg (by omega), g1, Option.bind_some]
    dsimp only
    rcases out with ⟨eb, s1, e1, H1, G1⟩ | ⟨eb, z, z1, z2, z3, z4, z5, z6⟩
    · subst eb
      subst e1
      obtain ⟨I1, K1, fx, h51, h211, kd, vd, ⟨em, r181, r22, r24, r25⟩, vr, cn1⟩ := H1
      obtain ⟨f1, f2, f3, f4, f5, f6⟩ := fx
      subst em
      have t1 : (hz_n 1).toInt = 1 := zn_ti (by omega)
      have k81 : (dk s1).1 8 = hz_n t := by rw [f1 8 (by omega)]; exact k8
      have k91 : (dk s1).1 9 = hz_n (if go then 1 else 0) := by rw [f1 9 (by omega)]; exact k9
      have kk1 : (dk s1).1 0 = κ0.1 0 ∧ (dk s1).2.1 1 = κ0.2.1 1 := ⟨by rw [f1 0 (by omega)]; exact kk.1, by rw [f2 1 (by omega)]; exact kk.2⟩
      have mm1 : (dm s1).1 10 = μ0.1 10 ∧ (dm s1).1 11 = μ0.1 11 ∧ (dm s1).2 16 = μ0.2 16 := ⟨by rw [f3 10 (by omega) (by omega)]; exact mm0.1, by rw [f3 11 (by omega) (by omega)]; exact mm0.2.1, by rw [f4 16 (by omega)]; exact mm0.2.2⟩
      rw [t1, if_neg (by omega), k81, zt t (by omega), zgd_t (by omega), Int.toNat_natCast, k91]
      obtain ⟨κ2, g2, μ2, run2, out2⟩ := bTurn (t := t) (go := go) (o := o) (fo := fo) (B := B) (κ0 := κ0) (μ0 := μ0) (F := F) (k := kd) (v := vd) st cap I1 K1 h51 h211 ⟨hpg.1, by rw [f1 6 (by omega)]; exact hpg.2.1, by rw [f3 12 (by omega) (by omega)]; exact hpg.2.2.1, fun j hj => by rw [f2 13 (by omega), f4 17 (by omega)]; exact hpg.2.2.2 j hj⟩ hwn hon (by rw [f1 7 (by omega)]; exact k7) k91 (bOpens_g G1 (fun j _ => by rw [f2 14 (by omega)]) op) (fun j hj => by rw [(f5 j (by omega)).1, (f5 j (by omega)).2]; exact re j hj) r181 (by rw [(f5 fo (by omega)).1]; exact frm) hof r22 r24 r25 vr cn1 kk1 mm1
      have hcl : ∃ κ', (if (hz_n (if go then 1 else 0)).toInt = 0 then (g_writeValue (dk s1) E ((dk s1).2.1 6 t) ((dk s1).2.1 7 t)).bind fun κ' => g_wl E f κ' (hz_n k + hz_n 1) else (g_writeRest (dk s1) E ((dk s1).2.1 6 t) ((dk s1).2.1 7 t)).bind fun κ' => g_wl E f κ' (hz_n k + hz_n 1)) = some κ' ∧ bOver dfs ST F κ0 μ0 κ' μ := by
        have key : ∃ κ', g_wl E f κ2 (hz_n (k + 1 : Nat)) = some κ' ∧ bOver dfs ST F κ0 μ0 κ' (dm s1) := by
          rcases out2 with ⟨s2, o2, fo2, n2, wn2, t2, m2, go2, B2, e2, hlt, W2, kk2, mm2⟩ | ⟨c1, c2, c3⟩
          · subst e2
            obtain ⟨κ3, a1, μ3, a2, a3⟩ := ih f (k + 1) s2 μ2 o2 fo2 n2 wn2 t2 m2 go2 B2 (by omega) (by omega) (by omega) W2 kk2 mm2
            exact ⟨κ3, a1, μ3, bRun_trans run2 a2, a3⟩
          · obtain ⟨f, rfl⟩ : ∃ f', f = f' + 1 := ⟨f - 1, by omega⟩
            exact ⟨κ2, g_wl_end (by omega) c1, μ2, run2, c2, c3⟩
        obtain ⟨κ3, a1, μ3, a2, a3⟩ := key
        cases go with
        | false =>
          rw [if_neg (by decide)] at g2
          have t0 : (hz_n (if false = true then 1 else 0)).toInt = 0 := zn_ti (by decide)
          refine ⟨κ3, ?_, μ3, bRun_trans run1 a2, a3⟩
          rw [t0, if_pos rfl, g2, Option.bind_some, zn1]; exact a1
        | true =>
          rw [if_pos rfl] at g2
          have t0 : (hz_n (if true = true then 1 else 0)).toInt = 1 := zn_ti (by decide)
          refine ⟨κ3, ?_, μ3, bRun_trans run1 a2, a3⟩
          rw [t0, if_neg (by omega), g2, Option.bind_some, zn1]; exact a1
      exact hcl
    · subst eb
      have t0 : (hz_n 0).toInt = 0 := zn_ti (by omega)
      rw [t0, if_pos rfl]
      obtain ⟨f1, f2, f3, f4, f5, f6⟩ := z6
      refine ⟨κ1, rfl, μ1, run1, Or.inl (by rw [z4]; intro h; have := zn_inj (by omega) (by omega) h; omega), z, n, z1, by omega, z3, z4, ⟨hpg.1, by rw [f1 6 (by omega)]; exact hpg.2.1, by rw [f3 12 (by omega) (by omega)]; exact hpg.2.2.1, fun j hj => by rw [f2 13 (by omega), f4 17 (by omega)]; exact hpg.2.2.2 j hj⟩, z5, ⟨by rw [f1 0 (by omega)]; exact kk.1, by rw [f2 1 (by omega)]; exact kk.2, by rw [f6]; exact I.1.2⟩, by rw [f3 10 (by omega) (by omega)]; exact mm0.1, by rw [f3 11 (by omega) (by omega)]; exact mm0.2.1, by rw [f4 16 (by omega)]; exact mm0.2.2, fun b b1 b2 => by rw [f4 b (by omega)]; exact I.1.1 b b1 b2⟩

theorem g_bgT : ∀ (d f k : Nat) (κ : zK), k + d = 26 → d < f → ∃ κ', g_bg f κ (hz_n k) = some κ' ∧ κ'.1 = κ.1 ∧ κ'.2.2 = κ.2.2 ∧ (∀ b, b ≠ 5 → κ'.2.1 b = κ.2.1 b) ∧ (∀ x, x < k → κ'.2.1 5 x = κ.2.1 5 x) ∧ (∀ x, k ≤ x → x < 26 → κ'.2.1 5 x = hz_n (-1))
  | d, 0, _, _, _, h => by omega
  | 0, f + 1, k, κ, hk, _ => by
    refine ⟨κ, ?_, rfl, rfl, fun _ _ => rfl, fun _ _ => rfl, fun x h1 h2 => by omega⟩
    rw [g_bg, zt k (by omega), if_pos (by omega)]
  | d + 1, f + 1, k, κ, hk, hf => by
    obtain ⟨κ', h1, h2, h3, h4, h5, h6⟩ := g_bgT d f (k + 1) (kA κ 5 k (hz_n (-1))) (by omega) (by omega)
    refine ⟨κ', ?_, h2, h3, fun b hb => by rw [h4 b hb, kA2n _ _ _ _ _ hb], fun x hx => ?_, fun x x1 x2 => ?_⟩
    · rw [g_bg, zt k (by omega), if_neg (by omega), zgd_t (by omega), Int.toNat_natCast, zn1]; exact h1
    · rw [h5 x (by omega), kA2, if_pos rfl, if_neg (by omega)]
    · by_cases e : x = k
      · rw [h5 x (by omega), kA2, if_pos rfl, if_pos e]
      · exact h6 x (by omega) x2
theorem m_r1T {F : Nat} {x : Int32} : ∀ (d f k : Nat) (μ : zM), k + d = 26 → d < f → ∃ μ', (∀ N, m_r1 F N x f μ (hz_n k) = m_r1 F N x 1 μ' (hz_n (26 : Nat))) ∧ μ'.1 = μ.1 ∧ (∀ b, b ≠ 32 → μ'.2 b = μ.2 b) ∧ (∀ y, y < k → μ'.2 32 y = μ.2 32 y) ∧ (∀ y, k ≤ y → y < 26 → μ'.2 32 y = hz_n (-1))
  | d, 0, _, _, _, h => by omega
  | 0, f + 1, k, μ, hk, _ => by
    have : k = 26 := by omega
    subst this
    refine ⟨μ, ?_, rfl, fun _ _ => rfl, fun _ _ => rfl, fun y h1 h2 => by omega⟩
    intro N
    rw [m_r1, m_r1, zt 26 (by omega), if_pos (by omega), if_pos (by omega)]
  | d + 1, f + 1, k, μ, hk, hf => by
    obtain ⟨μ', h1, h2, h3, h4, h5⟩ := m_r1T (F := F) (x := x) d f (k + 1) (mA μ 32 k (hz_n (-1))) (by omega) (by omega)
    refine ⟨μ', ?_, h2, fun b hb => by rw [h3 b hb, mA2n _ _ _ _ _ hb], fun y hy => ?_, fun y y1 y2 => ?_⟩
    · intro N
      rw [← h1]
      conv => lhs; rw [m_r1]
      rw [zt k (by omega), if_neg (by omega), zgd_t (by omega), Int.toNat_natCast, zn1]
    · rw [h4 y (by omega), mA2, if_pos rfl, if_neg (by omega)]
    · by_cases e : y = k
      · rw [h4 y (by omega), mA2, if_pos rfl, if_pos e]
      · exact h5 y (by omega) y2
-- a run of both, from anywhere
theorem bRunT {E : Nat → Option zT} {dfs : Nat → Option Nat} {ST : Nat → Nat → Int32} {F l0 am : Nat} {S : zG} {κ : zK} {μ : zM} (hF : 951 ≤ F) (st : bSta E dfs ST F S) (cap : ∀ l, l < 26 → dfs l ≠ none → bCap S l) (hl : l0 < 26) (ham : 1 ≤ am ∧ am ≤ 50)
    (hd : κ.2.2 3 = dfs) (hs : ∀ b, 18 ≤ b → b ≤ 23 → μ.2 b = ST b) (m12 : μ.1 12 = hz_n 0) (m20 : μ.1 20 = hz_n 0) (m19 : μ.1 19 = hz_n am) (m21 : μ.1 21 = hz_n 0) (m15 : μ.1 15 = hz_n 0) (m16 : μ.1 16 = hz_n 0) (m17 : μ.1 17 = hz_n 0) (m18 : μ.1 18 = hz_n 0) :
    ∃ κ1 κ2 N r μ', g_begin κ (hz_n l0) (hz_n am) = some κ1 ∧ g_write κ1 E = some κ2 ∧ m_r1 F N (hz_n (65 + l0 : Nat)) 30 μ (hz_n (0 : Nat)) = some (r, μ') ∧ bEndW dfs ST κ μ κ2 μ' ∧ (r = if 0 ≤ (μ'.1 21).toInt then μ'.1 12 else μ'.1 21) := by
  -- the class begins
  obtain ⟨κ1, b1, b2, b3, b4, b5, b6⟩ := g_bgT 26 30 0 (kA (kS (kS (kS (kS (kS κ 2 (hz_n l0)) 3 (hz_n am)) 4 (hz_n 0)) 5 (hz_n 0)) 1 (hz_n 0)) 6 2000 (hz_n 0)) (by omega) (by omega)
  have hbeg : g_begin κ (hz_n l0) (hz_n am) = some κ1 := by unfold g_begin; exact b1
  generalize hκw : kS (kS (kS (kS κ1 6 (hz_n 0)) 7 (hz_n 0)) 8 (hz_n 2000)) 9 (hz_n 0) = κw
  have w1 : ∀ b, b ≠ 6 → b ≠ 7 → b ≠ 8 → b ≠ 9 → κw.1 b = (kA (kS (kS (kS (kS (kS κ 2 (hz_n l0)) 3 (hz_n am)) 4 (hz_n 0)) 5 (hz_n 0)) 1 (hz_n 0)) 6 2000 (hz_n 0)).1 b := by
    intro b h6 h7 h8 h9
    rw [← hκw, kS1, if_neg h9, kS1, if_neg h8, kS1, if_neg h7, kS1, if_neg h6, b2]
  have w2 : κw.2 = κ1.2 := by rw [← hκw]; rfl
  have k1 : κw.1 1 = hz_n ((0 : Nat) : Int) := w1 1 (by decide) (by decide) (by decide) (by decide)
  have k2 : κw.1 2 = hz_n l0 := w1 2 (by decide) (by decide) (by decide) (by decide)
  have k3 : κw.1 3 = hz_n am := w1 3 (by decide) (by decide) (by decide) (by decide)
  have k4 : κw.1 4 = hz_n ((0 : Nat) : Int) := w1 4 (by decide) (by decide) (by decide) (by decide)
  have k5 : κw.1 5 = hz_n 0 := w1 5 (by decide) (by decide) (by decide) (by decide)
  have k0 : κw.1 0 = κ.1 0 := w1 0 (by decide) (by decide) (by decide) (by decide)
  have k6 : κw.1 6 = hz_n ((0 : Nat) : Int) ∧ κw.1 7 = hz_n ((0 : Nat) : Int) ∧ κw.1 8 = hz_n ((2000 : Nat) : Int) ∧ κw.1 9 = hz_n 0 := by rw [← hκw]; exact ⟨rfl, rfl, rfl, rfl⟩
  have kr : κw.2.1 6 2000 = hz_n 0 := by rw [w2, b4 6 (by decide), kA2, if_pos rfl, if_pos rfl]
  have kc : ∀ l, l < 26 → κw.2.1 5 l = hz_n (-1) := fun l h => by rw [w2]; exact b6 l (by omega) h
  have kd : κw.2.2 3 = dfs := by rw [w2, b3]; exact hd
  have ka1 : κw.2.1 1 = κ.2.1 1 := by rw [w2, b4 1 (by decide), kA2n _ _ _ _ _ (by decide)]; rfl
  -- the reference begins
  have z0 : hz_n 0 = hz_n ((0 : Nat) : Int) := rfl
  obtain ⟨μ1, c1, c2, c3, c4, c5⟩ := m_r1T (F := F) (x := hz_n (65 + l0 : Nat)) 26 30 0 μ (by omega) (by omega)
  generalize hμs : mS (mA (mA (m_nothing μ1) 37 0 (hz_n (4096 * 7 + 0 : Nat))) 38 0 (hz_n 0)) 18 (hz_n (0 + 1 : Nat)) = μs
  have s1 : ∀ b, b ≠ 18 → b ≠ 22 → b ≠ 24 → μs.1 b = μ.1 b := by
    intro b h1 h2 h3
    rw [← hμs, mS1, if_neg h1, mA1, mA1]
    unfold m_nothing
    rw [mS1, if_neg h3, mS1, if_neg h2, c2]
  have s2 : ∀ b, b ≠ 37 → b ≠ 38 → μs.2 b = μ1.2 b := by
    intro b h1 h2
    rw [← hμs, mS2, mA2n _ _ _ _ _ h2, mA2n _ _ _ _ _ h1]; rfl
  have s18 : μs.1 18 = hz_n (0 + 1 : Nat) := by rw [← hμs]; rfl
  have s37 : μs.2 37 0 = hz_n (4096 * 7 + 0 : Nat) := by rw [← hμs]; simp only [mS2, mA2]; simp
  -- the state
  let s0 : zD := (kPush κw 2000 0, μs, fun _ => none, fun _ => 0, fun _ => 0, fun _ => none, fun _ => 0, fun _ => 0, 0, 0, 0, 0)
  have I0 : bInv S dfs ST l0 am s0 := by
    refine ⟨⟨fun b b1 b2 => ?_, kd⟩, ⟨?_, ?_, ?_, ?_, Nat.zero_le _, ham.2, ?_, hl, ?_, ?_, ?_, by show 0 ≤ 1000; omega, by show 0 ≤ 2600; omega, by show 0 ≤ 950; omega⟩, fun i hi => absurd hi (by show ¬ i < 0; omega), fun l h => Or.inl ⟨?_, ?_⟩, fun c m h => absurd h (by show ¬ (none : Option Int) = some m; simp), fun c t h => absurd h (by show ¬ (none : Option Nat) = some t; simp), fun b h => absurd h (by show ¬ b < 0; omega), fun i p hi => absurd hi (by show ¬ i < 0; omega)⟩
    · show μs.2 b = _; rw [s2 b (by omega) (by omega), c3 b (by omega)]; exact hs b b1 b2
    · show (kPush κw 2000 0).1 4 = _; rw [kPush_fix.1 4 (by decide)]; exact k4
    · show μs.1 20 = _; rw [s1 20 (by decide) (by decide) (by decide)]; exact m20
    · show (kPush κw 2000 0).1 3 = _; rw [kPush_fix.1 3 (by decide)]; exact k3
    · show μs.1 19 = _; rw [s1 19 (by decide) (by decide) (by decide)]; exact m19
    · show (kPush κw 2000 0).1 2 = _; rw [kPush_fix.1 2 (by decide)]; exact k2
    · show μs.1 15 = _; rw [s1 15 (by decide) (by decide) (by decide)]; exact m15
    · show μs.1 16 = _; rw [s1 16 (by decide) (by decide) (by decide)]; exact m16
    · show μs.1 17 = _; rw [s1 17 (by decide) (by decide) (by decide)]; exact m17
    · show (kPush κw 2000 0).2.1 5 l = _; rw [kPush_fix.2 5 (by decide) (by decide) (by decide) (by decide)]; exact kc l h
    · show μs.2 32 l = _; rw [s2 32 (by decide) (by decide)]; exact c5 l (by omega) h
  have K0 : bStk S s0 [2000] := by
    refine ⟨?_, ⟨?_, trivial⟩, by simp, fun c hc => ?_, fun i p hi => absurd hi (by show ¬ i < 0; omega)⟩
    · show (kPush κw 2000 0).1 1 = _; unfold kPush; rfl
    · show (kPush κw 2000 0).2.1 11 0 = _; unfold kPush; simp only [kS2, kA2]; simp
    · have : c = 2000 := by simpa using hc
      subst this
      refine ⟨?_, Or.inl rfl⟩
      show (kPush κw 2000 0).2.1 6 2000 = _; unfold kPush; simp only [kS2, kA2]; simp
  have C0 : bCnt S s0 0 0 0 0 0 0 := ⟨rfl, by show 0 + 0 ≤ _; omega, rfl, Nat.zero_le _, Nat.zero_le _⟩
  have h210 : (dm s0).1 21 = hz_n 0 := by show μs.1 21 = _; rw [s1 21 (by decide) (by decide) (by decide)]; exact m21
  have h50 : (dk s0).1 5 = hz_n 0 := by show (kPush κw 2000 0).1 5 = _; rw [kPush_fix.1 5 (by decide)]; exact k5
  obtain ⟨μn, hμn⟩ := m_letter_ok I0 (l := l0) (f := 0 + 1) hl s18 (by omega) (by show 0 < 1000; omega)
  have hnd : m_need (dm s0) (hz_n (-30 - (l0 : Int))) = some μn := by
    unfold m_need
    have e : hz_n (-30) - hz_n (-30 - (l0 : Int)) = hz_n l0 := by rw [zn_sub]; congr 1; omega
    rw [zn_ti (by omega), if_pos (by omega), e]; exact hμn
  have H0 : bSim S dfs ST l0 am 1 2000 0 0 (dk s0) (dm s0) s0 μn [2000] :=
    ⟨I0, K0, bFix_self, h50, rfl, 1, 1, rfl, Or.inr (Or.inl ⟨rfl, rfl⟩), Nat.le_refl _, Or.inr (Or.inl ⟨_, 0, Or.inl ⟨rfl, rfl, rfl⟩, hnd, s18, C0, h210⟩)⟩
  obtain ⟨b, κ3, g1, μ3, run1, out⟩ := g_ndT hF st cap (by omega) (by omega) (by omega) 7100 1000001 0 s0 μn [2000] (by omega) (by omega) (by omega) H0
  have hneed : g_need κw E (hz_n ((2000 : Nat) : Int)) = some (b, κ3) := by
    unfold g_need
    rw [k5, zn_ti (by omega), if_pos rfl, q_req0 (n := 0) (by omega) kr k1 (by omega), Option.bind_some]
    dsimp only
    rw [zn_ti (by omega), if_pos rfl]
    exact g1
  have pg0 : bPg κw μs 0 := ⟨by omega, k6.1, by rw [s1 12 (by decide) (by decide) (by decide)]; exact m12, fun j hj => by omega⟩
  have kp1 : ∀ b, b ≠ 1 → (dk s0).1 b = κw.1 b := fun b hb => kPush_fix.1 b hb
  have kp2 : ∀ b, b = 1 ∨ b = 13 ∨ b = 14 → (dk s0).2.1 b = κw.2.1 b := fun b hb => kPush_fix.2 b (by omega) (by omega) (by omega) (by omega)
  have m10 : μs.1 10 = μ.1 10 ∧ μs.1 11 = μ.1 11 ∧ μs.2 16 = μ.2 16 := ⟨s1 10 (by decide) (by decide) (by decide), s1 11 (by decide) (by decide) (by decide), by rw [s2 16 (by decide) (by decide), c3 16 (by decide)]⟩
  -- the writer
  obtain ⟨κ2, hw, over⟩ : ∃ κ2, g_wl E 1000001 κw (hz_n ((0 : Nat) : Int)) = some κ2 ∧ bOver dfs ST F κ μ κ2 μn := by
    rw [show (1000001 : Nat) = 1000000 + 1 from rfl, g_wl, zt 0 (by omega), if_neg (by omega), k6.2.2.1, zt 2000 (by omega), if_neg (by omega), hneed, Option.bind_some]
    dsimp only
    rcases out with ⟨eb, s3, e1, H3, G3⟩ | ⟨eb, z, z1, z2, z3, z4, z5, z6⟩
    · subst eb
      subst e1
      obtain ⟨I3, K3, fx, h53, h213, kk3, vv3, ⟨em, r18, r22, r24, r25⟩, vr, cn3⟩ := H3
      obtain ⟨f1, f2, f3, f4, f5, f6⟩ := fx
      subst em
      have t1 : (hz_n 1).toInt = 1 := zn_ti (by omega)
      have k83 : (dk s3).1 8 = hz_n ((2000 : Nat) : Int) := by rw [f1 8 (by omega), kp1 8 (by decide)]; exact k6.2.2.1
      have k93 : (dk s3).1 9 = hz_n 0 := by rw [f1 9 (by omega), kp1 9 (by decide)]; exact k6.2.2.2
      rw [t1, if_neg (by omega), k83, zt 2000 (by omega), zgd_t (by omega), Int.toNat_natCast, k93]
      obtain ⟨κ4, g2, μ4, run2, out2⟩ := bTurn (t := 2000) (go := false) (o := 0) (fo := 0) (n := 0) (wn := 0) (B := fun _ => 0) (κ0 := κ) (μ0 := μ) (F := F) (k := kk3) (v := vv3) (E := E) st cap I3 K3 h53 h213 ⟨by omega, by rw [f1 6 (by omega), kp1 6 (by decide)]; exact k6.1, by rw [f3 12 (by omega) (by omega)]; exact pg0.2.2.1, fun j hj => by omega⟩ (Nat.le_refl _) (Nat.le_refl _) (by rw [f1 7 (by omega), kp1 7 (by decide)]; exact k6.2.1) k93 (fun j hj => by omega) (fun j hj => by omega) r18 (by rw [(f5 0 (by omega)).1]; exact s37) (Or.inr ⟨rfl, rfl⟩) r22 r24 r25 vr cn3 ⟨by rw [f1 0 (by omega), kp1 0 (by decide)]; exact k0, by rw [f2 1 (by omega), kp2 1 (by omega)]; exact ka1⟩ ⟨by rw [f3 10 (by omega) (by omega)]; exact m10.1, by rw [f3 11 (by omega) (by omega)]; exact m10.2.1, by rw [f4 16 (by omega)]; exact m10.2.2⟩
      rw [if_neg (by decide)] at g2
      have key : ∃ κ', g_wl E 1000000 κ4 (hz_n ((0 + 1 : Nat) : Int)) = some κ' ∧ bOver dfs ST F κ μ κ' (dm s3) := by
        rcases out2 with ⟨s5, o2, fo2, n2, wn2, t2, m2, go2, B2, e2, hlt, W2, kk2, mm2⟩ | ⟨d1, d2, d3⟩
        · subst e2
          obtain ⟨κ5, a1, μ5, a2, a3⟩ := g_wlT hF st cap 100 1000000 (0 + 1) s5 μ4 o2 fo2 n2 wn2 t2 m2 go2 B2 (by omega) (by omega) (by omega) W2 kk2 mm2
          exact ⟨κ5, a1, μ5, bRun_trans run2 a2, a3⟩
        · exact ⟨κ4, g_wl_end (f := 999999) (by omega) d1, μ4, run2, d2, d3⟩
      obtain ⟨κ5, a1, μ5, a2, a3⟩ := key
      refine ⟨κ5, ?_, μ5, bRun_trans run1 a2, a3⟩
      have t0 : (hz_n 0).toInt = 0 := zn_ti (by omega)
      have g2' : g_writeValue (dk s3) E ((dk s3).2.1 6 2000) ((dk s3).2.1 7 2000) = some κ4 := g2
      rw [t0, if_pos rfl, g2', Option.bind_some, zn1]; exact a1
    · subst eb
      have t0 : (hz_n 0).toInt = 0 := zn_ti (by omega)
      rw [t0, if_pos rfl]
      obtain ⟨f1, f2, f3, f4, f5, f6⟩ := z6
      refine ⟨κ3, rfl, μ3, run1, Or.inl (by rw [z4]; intro h; have := zn_inj (by omega) (by omega) h; omega), z, 0, z1, by omega, z3, z4, ⟨by omega, by rw [f1 6 (by omega), kp1 6 (by decide)]; exact k6.1, by rw [f3 12 (by omega) (by omega)]; exact pg0.2.2.1, fun j hj => by omega⟩, z5, ⟨by rw [f1 0 (by omega), kp1 0 (by decide)]; exact k0, by rw [f2 1 (by omega), kp2 1 (by omega)]; exact ka1, by rw [f6]; exact kd⟩, by rw [f3 10 (by omega) (by omega)]; exact m10.1, by rw [f3 11 (by omega) (by omega)]; exact m10.2.1, by rw [f4 16 (by omega)]; exact m10.2.2, fun b b1 b2 => by rw [f4 b (by omega)]; exact I0.1.1 b b1 b2⟩
  obtain ⟨μ', ⟨n, hrun⟩, hstop, hend⟩ := over
  -- the reference's loop
  have hrf : m_rl F 1 μ' = m_rf μ' := by
    rw [m_rl]
    rcases hstop with h | ⟨h1, h2⟩
    · rw [if_neg (fun e => h ((zkt (by omega)).mp e))]
    · split
      · rw [h1, zn_ti (by omega), if_neg (by omega), h2, zn_ti (by omega), if_pos (by omega)]
      · rfl
  have hN : m_rl F (1 + n) μn = m_rf μ' := by rw [hrun 1]; exact hrf
  have hst : m_stack (m_nothing μ1) (hz_n 7) (hz_n 0) (hz_n 0) = μs := by
    rw [← hμs]
    exact m_stF (w := 7) (a := 0) (f := 0) (by show (m_nothing μ1).1 18 = _; unfold m_nothing; rw [mS1, if_neg (by decide), mS1, if_neg (by decide), c2]; exact m18) (by omega) (by omega) (by omega)
  have h18 : (m_nothing μ1).1 18 = hz_n 0 := by unfold m_nothing; rw [mS1, if_neg (by decide), mS1, if_neg (by decide), c2]; exact m18
  have e65 : hz_n ((65 + l0 : Nat) : Int) - hz_n 65 = hz_n l0 := by rw [zn_sub]; congr 1; omega
  have hμn' : m_letter μs (hz_n l0) = some μn := hμn
  have hfin : m_r1 F (1 + n) (hz_n (65 + l0 : Nat)) 30 μ (hz_n (0 : Nat)) = m_rf μ' := by
    rw [c1 (1 + n), m_r1, zt 26 (by omega), if_pos (by omega), h18, zn_ti (by omega), zgd_t (by omega), hst, e65, hμn', Option.bind_some]
    exact hN
  refine ⟨κ1, κ2, 1 + n, if 0 ≤ (μ'.1 21).toInt then μ'.1 12 else μ'.1 21, μ', hbeg, ?_, ?_, hend, rfl⟩
  · unfold g_write
    have e2000 : hz_n 2000 = hz_n ((2000 : Nat) : Int) := rfl
    rw [hκw]; exact hw
  · rw [hfin]
    unfold m_rf
    split <;> rfl
