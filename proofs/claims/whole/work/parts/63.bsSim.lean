def bRun (F : Nat) (μ μ' : zM) : Prop := ∃ k, ∀ f, m_rl F (f + k) μ = m_rl F f μ'
theorem bRun_refl (F : Nat) (μ : zM) : bRun F μ μ := ⟨0, fun _ => rfl⟩
theorem bRun_trans {F : Nat} {μ μ' μ'' : zM} (h : bRun F μ μ') (h' : bRun F μ' μ'') : bRun F μ μ'' := by
  obtain ⟨k, e⟩ := h
  obtain ⟨k', e'⟩ := h'
  exact ⟨k' + k, fun f => by rw [← Nat.add_assoc, e, e']⟩
theorem bRun_step {F : Nat} {μ μ' : zM} {n : Nat} (h21 : μ.1 21 = hz_n 0) (h22 : μ.1 22 = hz_n n) (hn : n ≤ 2000) (h : m_step μ F = some μ') : bRun F μ μ' := by
  refine ⟨1, fun f => ?_⟩
  show m_rl F (f + 1) μ = _
  conv => lhs; unfold m_rl
  rw [h21, zn_ti (by omega), if_pos rfl, h22, zt n (by omega), if_pos (by omega), h, Option.bind_some]
theorem bRun_go {F : Nat} {μ μ' : zM} {f : Nat} (h21 : μ.1 21 = hz_n 0) (h22 : μ.1 22 = hz_n (-1)) (h18 : μ.1 18 = hz_n (f + 1 : Nat)) (hf : f < 2150) (h : m_goOn μ F = some μ') : bRun F μ μ' := by
  refine ⟨1, fun g => ?_⟩
  show m_rl F (g + 1) μ = _
  conv => lhs; unfold m_rl
  rw [h21, zn_ti (by omega), if_pos rfl, h22, zn_ti (by omega), if_neg (by omega), h18, zt _ (by omega), if_neg (by omega), h, Option.bind_some]
theorem m_goF {F : Nat} {μ : zM} {f w a : Nat} {b : Int32} (h18 : μ.1 18 = hz_n (f + 1 : Nat)) (hf : f < 2150) (h37 : μ.2 37 f = hz_n (4096 * w + a : Nat)) (h38 : μ.2 38 f = b) (hw : w ≤ 10) (ha : a < 4096) :
    m_goOn μ F = m_go2 (mS μ 18 (hz_n f)) F (hz_n w) (hz_n a) b := by
  unfold m_goOn
  have e : hz_n ((f + 1 : Nat) : Int) - hz_n 1 = hz_n f := by rw [zn_sub]; congr 1; omega
  have e2 : hz_n ((4096 * w + a : Nat) : Int) / hz_n 4096 = hz_n w := by
    rw [zn_div (by omega) (by omega)]; congr 1; omega
  rw [h18, e, zt f (by omega), zgd_t (by omega), Int.toNat_natCast, h37, h38, e2, zn_mul, zn_sub]
  congr 2; omega
def bFix (kw : zK) (mw : zM) (f0 : Nat) (κ : zK) (μ : zM) : Prop :=
  (∀ b, b = 0 ∨ (6 ≤ b ∧ b ≤ 9) → κ.1 b = kw.1 b) ∧ (∀ b, b = 1 ∨ b = 13 ∨ b = 14 → κ.2.1 b = kw.2.1 b) ∧ (∀ b, 10 ≤ b → b ≤ 12 → μ.1 b = mw.1 b) ∧ (∀ b, 16 ≤ b ∧ b ≤ 23 → μ.2 b = mw.2 b)
  ∧ (∀ j, j < f0 → μ.2 37 j = mw.2 37 j ∧ μ.2 38 j = mw.2 38 j) ∧ κ.2.2 3 = kw.2.2 3
def phi : Nat → Nat
  | 0 => 0
  | 1 => 3
  | 2 => 7
  | _ => 12
noncomputable def psi (μ : zM) (k v : Int32) : Nat := if k.toInt = 2 then 2 else if k.toInt = 3 then (if v.toInt < 0 then 0 else phi (μ.2 33 (v.toInt.toNat + 1)).toInt.toNat) else 0
def bReg (s : zD) (μ : zM) (f : Nat) (k v : Int32) : Prop := μ = dm s ∧ μ.1 18 = hz_n f ∧ μ.1 22 = hz_n (-1) ∧ μ.1 24 = k ∧ μ.1 25 = v
def bNm (S : zG) (l0 : Nat) (s : zD) (c : Nat) (m : Int) (cr : Nat) : Prop :=
  (c = 2000 ∧ m = -30 - (l0 : Int) ∧ cr = 0) ∨ ∃ i p, c = 40 * i + p ∧ i < de s ∧ s_cl S (dl s i) p = 1
    ∧ ((s_op S (dl s i) p = 1 ∧ cr = 1 ∧ ∃ t, dd s (40 * i + s_bi S (dl s i) p) = some t ∧ dg s t = some m ∧ (dg s c = none ∨ bOwn S (dl s i) p ∨ dw s t < dw s c)) ∨ (s_op S (dl s i) p = 3 ∧ cr = 0 ∧ m = -30 - (s_vl S (dl s i) p : Int)))
def bPe (S : zG) (s : zD) (c f2 : Nat) (μ : zM) : Prop := ∃ i p, c = 40 * i + p ∧ i < de s ∧ s_cl S (dl s i) p = 1 ∧ bVir S s i (dl s i) p ∧ (dk s).2.1 9 c = hz_n (c + 1 : Nat) ∧ (dk s).2.1 10 c = hz_n (c + 1 : Nat)
  ∧ bEnv S s i (dl s i) p (da s c) ∧ μ = dm s ∧ μ.1 18 = hz_n f2 ∧ μ.1 22 = hz_n (40 * dl s i + s_nd S (dl s i) p : Nat) ∧ μ.1 23 = hz_n (da s c)
def bPhs (S : zG) (dfs : Nat → Option Nat) (l0 wn wr : Nat) (s : zD) (c f2 : Nat) (μ : zM) : Prop :=
  (bPe S s c f2 μ ∧ 5 ≤ s_op S (dl s (c / 40)) (c % 40) ∧ bCnt S s wn wr 0 0 0 0 ∧ μ.1 21 = hz_n 0)
  ∨ (∃ m cr, bNm S l0 s c m cr ∧ m_need (dm s) (hz_n m) = some μ ∧ (dm s).1 18 = hz_n f2 ∧ bCnt S s wn wr cr 0 0 0 ∧ (dm s).1 21 = hz_n 0)
  ∨ (∃ i p k v, c = 40 * i + p ∧ i < de s ∧ s_cl S (dl s i) p = 1 ∧ bReg s μ f2 k v ∧ ((s_op S (dl s i) p = 2 ∧ k = hz_n 0 ∧ v = hz_n (s_vl S (dl s i) p)) ∨ (s_op S (dl s i) p = 4 ∧ k = hz_n 1)) ∧ bCnt S s wn wr 0 0 0 0 ∧ μ.1 21 = hz_n 0)
  ∨ (∃ d f k v, bWt S l0 s c d f2 f ∧ bReg s μ f k v ∧ bVR S dfs s (ks s d) (kv s d) k v ∧ bCnt S s wn wr 0 (psi μ k v) 0 0 ∧ μ.1 21 = hz_n 0)
  ∨ (∃ i p i' f, c = 40 * i + p ∧ i < de s ∧ s_cl S (dl s i) p = 1 ∧ s_op S (dl s i) p = 6 ∧ bWt S l0 s c (40 * i' + (s_pc S (dl s i') + 1)) f2 f ∧ i' < de s ∧ ks s (40 * i' + (s_pc S (dl s i') + 1)) = hz_n 0 ∧ dg s (40 * i' + (s_pc S (dl s i') + 1)) = none
      ∧ ∃ a : Int, bEnv S s i' (dl s i') (s_pc S (dl s i') + 1) a ∧ μ = dm s ∧ μ.1 18 = hz_n f ∧ μ.1 22 = hz_n (40 * dl s i' : Nat) ∧ μ.1 23 = hz_n a ∧ bCnt S s wn wr 0 0 0 0 ∧ μ.1 21 = hz_n 0)
def bSim (S : zG) (dfs : Nat → Option Nat) (ST : Nat → Nat → Int32) (l0 am f0 g wn wr : Nat) (kw : zK) (mw : zM) (s : zD) (μ : zM) : List Nat → Prop
  | [] => bInv S dfs ST l0 am s ∧ bStk S s [] ∧ bFix kw mw f0 (dk s) (dm s) ∧ (dk s).1 5 = hz_n 0 ∧ (dm s).1 21 = hz_n 0 ∧ ∃ k v, bReg s μ f0 k v ∧ bVR S dfs s (ks s g) (kv s g) k v ∧ bCnt S s wn wr 0 (psi μ k v) 0 0
  | c :: r => bInv S dfs ST l0 am s ∧ bStk S s (c :: r) ∧ bFix kw mw f0 (dk s) (dm s) ∧ (dk s).1 5 = hz_n 0 ∧ (c :: r).getLast? = some g ∧ ∃ f1 f2, bFr S l0 f0 s r c f1 ∧ bKF S s c f1 f2 ∧ f0 ≤ f1 ∧ bPhs S dfs l0 wn wr s c f2 μ
abbrev zGh : Type := (Nat → Option Int) × (Nat → Nat) × Nat
def ghs (s : zD) : zGh := (dg s, dl s, de s)
def ghL (a b : zGh) : Prop := (∀ c m, a.1 c = some m → b.1 c = some m) ∧ a.2.2 ≤ b.2.2 ∧ ∀ i, i < a.2.2 → b.2.1 i = a.2.1 i
theorem ghL_r (a : zGh) : ghL a a := ⟨fun _ _ h => h, Nat.le_refl _, fun _ _ => rfl⟩
theorem ghL_t {a b c : zGh} (h : ghL a b) (h' : ghL b c) : ghL a c := ⟨fun x m hx => h'.1 x m (h.1 x m hx), Nat.le_trans h.2.1 h'.2.1, fun i hi => by rw [h'.2.2 i (Nat.lt_of_lt_of_le hi h.2.1), h.2.2 i hi]⟩
theorem ghL_g {s s' : zD} (g : bGrow s s') : ghL (ghs s) (ghs s') := ⟨g.1.1, g.2.2.2.1.1, g.2.2.2.1.2⟩
def bOutc (S : zG) (dfs : Nat → Option Nat) (ST : Nat → Nat → Int32) (F l0 am f0 g wn wr : Nat) (kw : zK) (mw : zM) (gh : zGh) (κ' : zK) (μ : zM) : Prop := ∃ μ', bRun F μ μ' ∧
  ((∃ s' sk', dk s' = κ' ∧ bSim S dfs ST l0 am f0 g wn wr kw mw s' μ' sk' ∧ ghL gh (ghs s')) ∨ (∃ z : Int, -5 ≤ z ∧ z < 0 ∧ κ'.1 5 = hz_n z ∧ μ'.1 21 = hz_n z ∧ (∃ e : Nat, e ≤ 50 ∧ κ'.1 4 = hz_n e ∧ μ'.1 20 = hz_n e) ∧ bFix kw mw f0 κ' μ'))
theorem bOutc_run {S : zG} {dfs : Nat → Option Nat} {ST : Nat → Nat → Int32} {F l0 am f0 g wn wr : Nat} {kw : zK} {mw : zM} {gh : zGh} {κ' : zK} {μ μ1 : zM} (h : bRun F μ μ1) (H : bOutc S dfs ST F l0 am f0 g wn wr kw mw gh κ' μ1) : bOutc S dfs ST F l0 am f0 g wn wr kw mw gh κ' μ := by
  obtain ⟨μ', h1, h2⟩ := H
  exact ⟨μ', bRun_trans h h1, h2⟩
theorem bOutc_gh {S : zG} {dfs : Nat → Option Nat} {ST : Nat → Nat → Int32} {F l0 am f0 g wn wr : Nat} {kw : zK} {mw : zM} {gh gh' : zGh} {κ' : zK} {μ : zM} (h : ghL gh gh') (H : bOutc S dfs ST F l0 am f0 g wn wr kw mw gh' κ' μ) : bOutc S dfs ST F l0 am f0 g wn wr kw mw gh κ' μ := by
  obtain ⟨μ', h1, h2⟩ := H
  refine ⟨μ', h1, ?_⟩
  rcases h2 with ⟨s', sk', a1, a2, a3⟩ | h2
  · exact Or.inl ⟨s', sk', a1, a2, ghL_t h a3⟩
  · exact Or.inr h2
theorem bCnt_ps {S : zG} {s : zD} {wn wr cr cr' ps ps' ob oe : Nat} (hp : ps ≤ ps') (hc : cr' ≤ cr) (H : bCnt S s wn wr cr ps ob oe) : bCnt S s wn wr cr' ps' ob oe := by
  obtain ⟨H1, H2, H3, H4, H5⟩ := H
  exact ⟨H1, by omega, H3, by omega, H5⟩
-- registers and frames alone
def bsN (s : zD) (μ : zM) : zD := (dk s, μ, s.2.2)
theorem bsN_same {Q : Nat → Prop} {s : zD} {μ : zM} (h : (μ.1 15 = (dm s).1 15 ∧ μ.1 16 = (dm s).1 16 ∧ μ.1 17 = (dm s).1 17 ∧ μ.1 19 = (dm s).1 19 ∧ μ.1 20 = (dm s).1 20) ∧ ∀ b, 18 ≤ b → b ≤ 36 → μ.2 b = (dm s).2 b) : bSame Q s (bsN s μ) :=
  ⟨rfl, ⟨rfl, rfl, rfl, rfl, fun _ _ _ => rfl, fun _ _ => rfl, fun _ _ => ⟨rfl, rfl⟩⟩, h.1.1, h.1.2.1, h.1.2.2.1, h.1.2.2.2.1, h.1.2.2.2.2, fun b b1 b2 _ => h.2 b b1 b2, fun j _ => by show μ.2 33 j = _; rw [h.2 33 (by decide) (by decide)]⟩
-- a value goes back to what waits for it
theorem bFr_same {ST : Nat → Nat → Int32} {F : Nat} {S : zG} {dfs : Nat → Option Nat} {l0 f0 am : Nat} {s s' : zD} {Q : Nat → Prop} (I : bInv S dfs ST l0 am s) (D : bDefs ST F S s) (h : bSame Q s s') {r : List Nat} {d f : Nat} (hq : ∀ c, c ∈ r → ¬ Q c)
    (hf : ∀ j, j < f → (dm s').2 37 j = (dm s).2 37 j ∧ (dm s').2 38 j = (dm s).2 38 j) (H : bFr S l0 f0 s r d f) : bFr S l0 f0 s' r d f := by
  have hb : dnb s ≤ 950 := I.2.1.2.2.2.2.2.2.2.2.2.2.2.2.2
  refine bFr_up (b_le I) hb (bUp_same (S := S) (dfs := dfs) h I.2.2.2.2.2.2.1) D ?_ ?_ (fun _ _ => id) hf H
  · intro l _; rw [h.2.1.2.2.2.2.1 5 (by omega) (by omega)]
  · intro c _ hc
    refine Or.inr fun i p e _ _ => ⟨id, ?_, id, fun _ _ _ => ⟨fun _ _ => id, id⟩, fun _ _ _ => id⟩
    rw [← e]; exact hq c hc
theorem bKF_same {S : zG} {dfs : Nat → Option Nat} {l0 am : Nat} {ST : Nat → Nat → Int32} {s s' : zD} {Q : Nat → Prop} (I : bInv S dfs ST l0 am s) (h : bSame Q s s') {c f1 f2 : Nat} (hf : ∀ j, j < f2 → (dm s').2 37 j = (dm s).2 37 j) (H : bKF S s c f1 f2) : bKF S s' c f1 f2 :=
  bKF_up (bUp_same (S := S) (dfs := dfs) h I.2.2.2.2.2.2.1) id hf H

theorem zvrk {S : zG} {dfs : Nat → Option Nat} {s : zD} {x w k v : Int32} (H : bVR S dfs s x w k v) : ∃ z : Nat, z ≤ 3 ∧ k = hz_n z := by
  rcases H with h | h | h | h
  · exact ⟨0, by omega, h.2.1⟩
  · exact ⟨1, by omega, h.2⟩
  · exact ⟨2, by omega, h.2.1⟩
  · exact ⟨3, by omega, h.2.1⟩
-- the frames of all but the top when only the top is changed
theorem bOut_top {ST : Nat → Nat → Int32} {F : Nat} {S : zG} {dfs : Nat → Option Nat} {l0 am f0 : Nat} {s : zD} {c d f1 : Nat} {r : List Nat} (I : bInv S dfs ST l0 am s) (D : bDefs ST F S s) (K : bStk S s (c :: r)) (fr : bFr S l0 f0 s r d f1) :
    ∀ x e, x ∈ r → x = 2000 ∨ ∀ i p, x = 40 * i + p → i < de s → s_cl S (dl s i) p = 1 → (∀ q, s_cl S (dl s i) q = 1 → s_pa S (dl s i) q = p → s_ro S (dl s i) q = 0 → 40 * i + q ≠ e → 40 * i + q = c → False) → bOut S s (· = c) (fun _ => False) (fun _ => False) (fun _ => False) i p e := by
  intro x e hx
  refine Or.inr fun i p he hi hc hk => ⟨?_, id, id, fun q q1 q2 => ⟨fun q3 q4 => hk q q1 q2 q3 q4, id⟩, fun _ _ _ => id⟩
  intro h
  obtain ⟨n1, n2⟩ := List.nodup_cons.mp K.2.2.1
  have : x = c := by rw [he]; exact h
  exact n1 (this ▸ hx)
-- a direct part that is being worked out is waited for by its whole
theorem bDirect {ST : Nat → Nat → Int32} {F : Nat} {S : zG} {dfs : Nat → Option Nat} {l0 am f0 : Nat} {s : zD} (I : bInv S dfs ST l0 am s) (D : bDefs ST F S s) : ∀ {r : List Nat} {c f1 : Nat}, bFr S l0 f0 s r c f1 →
    ∀ {i q : Nat}, c = 40 * i + q → i < de s → s_cl S (dl s i) q = 1 → s_ro S (dl s i) q = 0 → dg s c = none → ∀ {c' : Nat} {r' : List Nat}, r = c' :: r' → c' = 40 * i + s_pa S (dl s i) q := by
  intro r c f1 fr i q hc hi hq hr hgn c' r' hrr
  subst hrr
  obtain ⟨f1', f2', h1, h2, h3⟩ := fr
  obtain ⟨T, DT⟩ := D i hi
  have hl := b_le I
  have hq40 := bKid_lt DT hq
  rcases h3 with ⟨a1, a2, a3, a4⟩ | ⟨i', p', a1, a2, a3, a4⟩
  · exfalso
    have hcn := I.2.2.2.1 l0 (I.2.1.2.2.2.2.2.2.2.1)
    rcases hcn with h | ⟨_, j, q', j1, j2, j3, _, j4, j5, _⟩
    · rw [h.1] at a2; exact zn_ne a3 a2.symm
    · rw [j4] at a2
      have := zn_inj (by omega) (by omega) a2
      have hx : c = 40 * j + 1 := by omega
      rw [hx, j5] at hgn; exact absurd hgn (by simp)
  · obtain ⟨T', DT'⟩ := D i' a2
    have hp' := bKid_lt DT' a3
    have sh := bShp_of DT' a3
    have fin : ∀ y, s_cl S (dl s i') y = 1 → s_pa S (dl s i') y = p' → c = 40 * i' + y → c' = 40 * i + s_pa S (dl s i) q := by
      intro y y1 y2 y3
      have := bKid_lt DT' y1
      have e1 : i' = i := by omega
      subst e1
      have e2 : y = q := by omega
      subst e2
      rw [a1, y2]
    rcases a4 with ⟨b1, b2, b0, b3⟩ | ⟨b1, b2, b3, b4⟩ | ⟨b1, b2, b3, n, b4, b5, b6, b7⟩ | ⟨b1, b2⟩ | ⟨b1, b2⟩ | ⟨b1, b2⟩ | ⟨b1, b2, b3, b4⟩
    · exact absurd hgn b0
    · exfalso
      rcases I.2.2.2.1 _ (bSh3 sh b1).2 with h | ⟨_, j, q', j1, j2, j3, _, j4, j5, _⟩
      · rw [h.1] at b2; exact zn_ne b3 b2.symm
      · rw [j4] at b2
        have := zn_inj (by omega) (by omega) b2
        have hx : c = 40 * j + 1 := by omega
        rw [hx, j5] at hgn; exact absurd hgn (by simp)
    · have hroot : bRoot S s c → False := by
        rintro ⟨j, j1, j2⟩
        obtain ⟨T2, DT2⟩ := D j j1
        have := DT2.2.1; have := DT2.2.2.2.1
        have e1 : j = i := by omega
        subst e1
        have e2 : q = s_pc S (dl s j) + 1 := by omega
        rw [e2, DT2.2.2.2.2.2.2.2.2.1] at hr
        exact absurd hr (by decide)
      rcases b7 with b7 | b7 | b7
      · have k0 := (bSh6 sh b1).2.1
        exact fin _ k0.1 k0.2.1 b7.2.1
      · exact (hroot b7.2.2.1).elim
      · exact (hroot b7.2.2.1).elim
    · obtain ⟨_, _, k0, k1, _⟩ := bSh7 sh b1
      rcases b2 with b2 | b2
      · exact fin _ k0.1 k0.2.1 b2.1
      · exact fin _ k1.1 k1.2.1 b2.1
    · obtain ⟨_, k0, k1, k2, _⟩ := bSh8 sh b1
      rcases b2 with b2 | ⟨_, _, b2 | b2⟩
      · exact fin _ k0.1 k0.2.1 b2.1
      · exact fin _ k1.1 k1.2.1 b2.1
      · exact fin _ k2.1 k2.2.1 b2.1
    · obtain ⟨_, k0, k1, k2, _⟩ := bSh9 sh b1
      rcases b2 with b2 | b2 | b2
      · exact fin _ k0.1 k0.2.1 b2.1
      · exact fin _ k1.1 k1.2.1 b2.1
      · exact fin _ k2.1 k2.2.1 b2.1
    · obtain ⟨_, k0, k1, _⟩ := bSh10 sh b1
      exact fin _ k1.1 k1.2.1 b2

-- as the top is kept: what waits for it, and the rest
theorem bFr_kept {ST : Nat → Nat → Int32} {F : Nat} {S : zG} {dfs : Nat → Option Nat} {l0 am f0 : Nat} {s s' : zD} {c c' f1 : Nat} {r : List Nat} (I : bInv S dfs ST l0 am s) (D : bDefs ST F S s) (K : bStk S s (c :: c' :: r))
    (u : bUp S dfs s s' (· = c) (fun _ => False) (fun _ => False) (fun _ => False)) (hk : ∀ l, (dk s).2.1 5 l ≠ hz_n (-1) → (dk s').2.1 5 l = (dk s).2.1 5 l)
    (hf : ∀ j, j < f1 → (dm s').2 37 j = (dm s).2 37 j ∧ (dm s').2 38 j = (dm s).2 38 j) (fr : bFr S l0 f0 s (c' :: r) c f1) :
    ∃ g1 g2, bFr S l0 f0 s' r c' g1 ∧ bKF S s' c' g1 g2 ∧ bWt S l0 s' c' c g2 f1 ∧ g1 ≤ f1 := by
  have hb : dnb s ≤ 950 := I.2.1.2.2.2.2.2.2.2.2.2.2.2.2.2
  have hl := b_le I
  obtain ⟨n1, n2⟩ := List.nodup_cons.mp K.2.2.1
  obtain ⟨n3, n4⟩ := List.nodup_cons.mp n2
  have hdir : ∀ x, x ∈ c' :: r → ∀ i p, x = 40 * i + p → i < de s → s_cl S (dl s i) p = 1 → ∀ q, s_cl S (dl s i) q = 1 → s_pa S (dl s i) q = p → s_ro S (dl s i) q = 0 → 40 * i + q = c → x = c' := by
    intro x hx i p he hi hc q q1 q2 q3 q4
    have hgn : dg s c = none := by
      cases hx : dg s c with
      | none => rfl
      | some m =>
        rw [← q4] at hx
        rcases ((I.2.2.2.2.2.2.2 i q hi q1).2.1 m hx).1 with ⟨ho, _⟩ | ⟨ho, _⟩
        · rcases ho with ho | ho | ho <;> omega
        · omega
    have := bDirect I D fr q4.symm hi q1 q3 hgn rfl
    rw [he, this, q2]
  have ho : ∀ x e, x ∈ r → x = 2000 ∨ ∀ i p, x = 40 * i + p → i < de s → s_cl S (dl s i) p = 1 → bOut S s (· = c) (fun _ => False) (fun _ => False) (fun _ => False) i p e := by
    intro x e hx
    refine Or.inr fun i p he hi hc => ⟨?_, id, id, fun q q1 q2 => ⟨fun q3 _ q4 => ?_, id⟩, fun _ _ _ => id⟩
    · intro h
      have : x = c := by rw [he]; exact h
      exact n1 (List.mem_cons_of_mem _ (this ▸ hx))
    · have := hdir x (List.mem_cons_of_mem _ hx) i p he hi hc q q1 q2 q3 q4
      exact n3 (this ▸ hx)
  have ho' : c' = 2000 ∨ ∀ i p, c' = 40 * i + p → i < de s → s_cl S (dl s i) p = 1 → bOut S s (· = c) (fun _ => False) (fun _ => False) (fun _ => False) i p c := by
    refine Or.inr fun i p he hi hc => ⟨?_, id, id, fun q q1 q2 => ⟨fun q3 q4 q5 => q4 q5, id⟩, fun _ _ _ => id⟩
    intro h
    have : c' = c := by rw [he]; exact h
    exact n1 (this ▸ List.mem_cons_self ..)
  obtain ⟨g1, g2, h1, h2, h3⟩ := fr
  have l1 := bKF_le h2
  have l2 := bWt_le h3
  exact ⟨g1, g2, bFr_up hl hb u D hk ho (fun _ _ => id) (fun j hj => hf j (by omega)) h1, bKF_up u id (fun j hj => (hf j (by omega)).1) h2, bWt_up hl hb u D hk ho' hf h3, by omega⟩
theorem bFix_k {kw : zK} {mw : zM} {f0 : Nat} {κ κ' : zK} {μ μ' : zM} (h : bFix kw mw f0 κ μ) (h1 : ∀ b, b = 0 ∨ (6 ≤ b ∧ b ≤ 9) → κ'.1 b = κ.1 b) (h2 : ∀ b, b = 1 ∨ b = 13 ∨ b = 14 → κ'.2.1 b = κ.2.1 b)
    (h3 : ∀ b, 10 ≤ b → b ≤ 12 → μ'.1 b = μ.1 b) (h4 : ∀ b, 16 ≤ b ∧ b ≤ 23 → μ'.2 b = μ.2 b) (h5 : ∀ j, j < f0 → μ'.2 37 j = μ.2 37 j ∧ μ'.2 38 j = μ.2 38 j) (h6 : κ'.2.2 3 = κ.2.2 3 := by rfl) : bFix kw mw f0 κ' μ' := by
  obtain ⟨a1, a2, a3, a4, a5, a6⟩ := h
  exact ⟨fun b hb => by rw [h1 b hb, a1 b hb], fun b hb => by rw [h2 b hb, a2 b hb], fun b b1 b2 => by rw [h3 b b1 b2, a3 b b1 b2], fun b hb => by rw [h4 b hb, a4 b hb], fun j hj => by rw [(h5 j hj).1, (h5 j hj).2]; exact a5 j hj, by rw [h6]; exact a6⟩
theorem kKeep_fix {κ : zK} {c n : Nat} {x v : Int32} : (∀ b, b ≠ 1 → (kKeep κ c n x v).1 b = κ.1 b) ∧ (∀ b, b ≠ 6 → b ≠ 7 → (kKeep κ c n x v).2.1 b = κ.2.1 b) := by
  refine ⟨fun b hb => ?_, fun b h6 h7 => ?_⟩
  · unfold kKeep; rw [kS1, if_neg hb]; rfl
  · unfold kKeep; rw [kS2]; rw [kA2n _ _ _ _ _ h7, kA2n _ _ _ _ _ h6]
theorem kPush_fix {κ : zK} {c n : Nat} : (∀ b, b ≠ 1 → (kPush κ c n).1 b = κ.1 b) ∧ (∀ b, b ≠ 6 → b ≠ 9 → b ≠ 10 → b ≠ 11 → (kPush κ c n).2.1 b = κ.2.1 b) := by
  refine ⟨fun b hb => ?_, fun b h6 h9 h10 h11 => ?_⟩
  · unfold kPush; rw [kS1, if_neg hb]; rfl
  · unfold kPush; rw [kS2]; rw [kA2n _ _ _ _ _ h11, kA2n _ _ _ _ _ h10, kA2n _ _ _ _ _ h9, kA2n _ _ _ _ _ h6]
theorem bFr_ge {S : zG} {l0 f0 : Nat} {s : zD} : ∀ {r : List Nat} {d f : Nat}, bFr S l0 f0 s r d f → f0 ≤ f
  | [], _, _, h => Nat.le_of_eq h.symm
  | c :: r, d, f, h => by
    obtain ⟨g1, g2, h1, h2, h3⟩ := h
    have := bFr_ge h1; have := bKF_le h2; have := bWt_le h3; omega
theorem bRet {E : Nat → Option zT} {dfs : Nat → Option Nat} {ST : Nat → Nat → Int32} {F l0 am f0 g wn wr : Nat} {S : zG} {kw : zK} {mw : zM} {s : zD} {c : Nat} {r : List Nat} {f1 f2 : Nat} {x w k v : Int32}
    (st : bSta E dfs ST F S) (I : bInv S dfs ST l0 am s) (K : bStk S s (c :: r)) (fx : bFix kw mw f0 (dk s) (dm s)) (h5 : (dk s).1 5 = hz_n 0) (hg : (c :: r).getLast? = some g) (fr : bFr S l0 f0 s r c f1) (kf : bKF S s c f1 f2) (hf2 : f2 ≤ 2150)
    (hreg : bReg s (dm s) f2 k v) (h21 : (dm s).1 21 = hz_n 0) (vr : bVR S dfs s x w k v)
    (hnk : ∀ m i p, c = 40 * i + p → i < de s → s_cl S (dl s i) p = 1 → ¬ bOwn S (dl s i) p → dg s c = some m → ∃ k' v', bNK S dfs s m k' v' ∧ bVR S dfs s x w k' v') (cnt : bCnt S s wn wr 0 (psi (dm s) k v) 0 0) :
    bOutc S dfs ST F l0 am f0 g wn wr kw mw (ghs s) (kKeep (dk s) c r.length x w) (dm s) := by
  have D := bDefs_of st I
  obtain ⟨_, r18, r22, r24, r25⟩ := hreg
  have hx := zvr vr
  obtain ⟨k1, k2, k3, k4, k5⟩ := id K
  have hkc := (k4 c (List.mem_cons_self ..)).1
  have hge := bFr_ge fr
  -- all that is common: from a state s1 (frames popped) and the reference's μ2
  have main : ∀ (s1 : zD) (μ2 : zM), ghs s1 = ghs s → dk s1 = dk s → bInv S dfs ST l0 am s1 → bStk S s1 (c :: r) → bFr S l0 f0 s1 r c f1 → bVR S dfs s1 x w k v → bCnt S s1 wn wr 0 (psi (dm s) k v) 0 0 → bKm s1 c μ2 →
      (∀ m k' v', bNK S dfs s1 m k' v' → bNK S dfs (bsK s1 c r.length x w μ2) m k' v') → (∀ m, dg s1 c = some m → ∃ k' v', bNK S dfs (bsK s1 c r.length x w μ2) m k' v' ∧ bVR S dfs s1 x w k' v') →
      bRun F (dm s) μ2 → μ2.1 18 = hz_n f1 → μ2.1 21 = hz_n 0 → μ2.1 22 = hz_n (-1) → μ2.1 24 = k → μ2.1 25 = v → μ2.2 33 = (dm s).2 33 → bFix kw mw f0 (dk s) μ2 → (∀ j, j < f1 → μ2.2 37 j = (dm s1).2 37 j ∧ μ2.2 38 j = (dm s1).2 38 j) →
      bOutc S dfs ST F l0 am f0 g wn wr kw mw (ghs s) (kKeep (dk s) c r.length x w) (dm s) := by
    intro s1 μ2 e0 e1 I1 K1 fr1 vr1 cnt1 km nk hv run q18 q21 q22 q24 q25 q33 fx2 hfr
    obtain ⟨I2, K2, u2⟩ := bKeep st I1 K1 hx km nk hv
    refine ⟨μ2, run, Or.inl ⟨bsK s1 c r.length x w μ2, r, by show kKeep (dk s1) c r.length x w = _; rw [e1], ?_, (by show ghL (ghs s) (ghs s1); rw [e0]; exact ghL_r _)⟩⟩
    have fx3 : bFix kw mw f0 (dk (bsK s1 c r.length x w μ2)) μ2 := by
      refine bFix_k fx2 ?_ ?_ (fun _ _ _ => rfl) (fun _ _ => rfl) (fun _ _ => ⟨rfl, rfl⟩) (by show (dk s1).2.2 3 = _; rw [e1])
      · intro b hb
        show (kKeep (dk s1) c r.length x w).1 b = _
        rw [kKeep_fix.1 b (by omega), e1]
      · intro b hb
        show (kKeep (dk s1) c r.length x w).2.1 b = _
        rw [kKeep_fix.2 b (by omega) (by omega), e1]
    have h5' : (dk (bsK s1 c r.length x w μ2)).1 5 = hz_n 0 := by
      show (kKeep (dk s1) c r.length x w).1 5 = _
      rw [kKeep_fix.1 5 (by decide), e1]; exact h5
    have vr2 : bVR S dfs (bsK s1 c r.length x w μ2) (ks (bsK s1 c r.length x w μ2) c) (kv (bsK s1 c r.length x w μ2) c) k v := by
      rw [bsK_ks, if_pos rfl, bsK_kv, if_pos rfl]; exact bVR_mono u2.1 vr1
    have hps : psi μ2 k v = psi (dm s) k v := by unfold psi; rw [q33]
    have hkc1 : ks s1 c = hz_n 1 := (K1.2.2.2.1 c (List.mem_cons_self ..)).1
    have cnt2 : bCnt S (bsK s1 c r.length x w μ2) wn wr 0 (psi μ2 k v) 0 0 := by
      rw [hps]; exact bCnt_keep hkc1 hx.1 km cnt1
    cases r with
    | nil =>
      have hc : c = g := by simpa using hg
      subst hc
      have : f1 = f0 := fr
      subst this
      exact ⟨I2, K2, fx3, h5', q21, k, v, ⟨rfl, q18, q22, q24, q25⟩, vr2, cnt2⟩
    | cons c' r' =>
      obtain ⟨g1, g2, w1, w2, w3, w4⟩ := bFr_kept I1 (bDefs_of st I1) K1 u2 (by intro l _; show (kKeep (dk s1) c _ x w).2.1 5 l = _; rw [kKeep_fix.2 5 (by decide) (by decide)]) hfr fr1
      refine ⟨I2, K2, fx3, h5', ?_, g1, g2, w1, w2, bFr_ge w1, Or.inr (Or.inr (Or.inr (Or.inl ⟨c, f1, k, v, w3, ⟨rfl, q18, q22, q24, q25⟩, vr2, cnt2, q21⟩)))⟩
      rw [List.getLast?_cons_cons] at hg; exact hg
  rcases kf with ⟨i, p, q, a1, a2, a3, a4, a5, a6, a7⟩ | ⟨a1, a2⟩ | ⟨a1, i, p, a2, a3, a4, a5⟩
  · -- an own promise: the reference keeps it
    obtain ⟨z, z1, z2⟩ := zvrk vr
    have hq := I.2.2.2.2.1 c q a5
    obtain ⟨M1, M2⟩ := (I.2.2.2.2.2.2.2 i p a2 a3).2.1 q (a1 ▸ a5)
    have hM : q < dnp s ∧ dt s q = c ∧ (dm s).2 28 q = hz_n 1 := by
      rcases M1 with ⟨_, q', e, m1, m2, _, _, _, _, m3⟩ | ⟨m1, m2, _⟩
      · have : q' = q := by omega
        subst this
        exact ⟨m1, by rw [a1]; exact m2, m3 (a1 ▸ hkc)⟩
      · rcases a4 with ho | ho | ho <;> omega
    have hgo : m_goOn (dm s) F = some (mA (mA (mS (dm s) 18 (hz_n f1)) 28 q (hz_n (2 + (z : Int)))) 31 q v) := by
      rw [m_goF (f := f1) (w := 1) (a := q) (b := (dm s).2 38 f1) (by rw [r18, a7]) (by omega) a6 rfl (by omega) (by omega)]
      unfold m_go2
      have t1 : (hz_n ((1 : Nat) : Int)).toInt = 1 := zn_ti (by omega)
      rw [t1, if_pos rfl, zt q (by omega), zgd_t (by omega), Int.toNat_natCast, mS1, mS1, if_neg (by decide), if_neg (by decide), r24, r25, z2, zn_add]
    have hsame : bSame (fun _ => False) s (bsN s (mS (dm s) 18 (hz_n f1))) := bsN_same ⟨⟨rfl, rfl, rfl, rfl, rfl⟩, fun _ _ _ => rfl⟩
    have hne : q < dnp s → ∀ y, y < dnp s → dt s y ≠ c → y ≠ q := fun _ y _ hy e => hy (e ▸ hM.2.1)
    refine main (bsN s (mS (dm s) 18 (hz_n f1))) (mA (mA (mS (dm s) 18 (hz_n f1)) 28 q (hz_n (2 + (z : Int)))) 31 q v) rfl rfl (bInv_same st I hsame) (bStk_same hsame rfl rfl K)
      (bFr_same I D hsame (fun _ _ => id) (fun _ _ => ⟨rfl, rfl⟩) fr) (bVR_mono (bUp_same (S := S) (dfs := dfs) hsame I.2.2.2.2.2.2.1).1 vr) (bCnt_same hsame cnt) ?_ ?_ ?_
      (bRun_go h21 r22 (by rw [r18, a7]) (by omega) hgo) rfl h21 r22 r24 r25 ?_ ?_ ?_
    · refine ⟨rfl, fun b b1 b2 => ?_, fun y hy hy' => ?_⟩
      · rw [mA2n _ _ _ _ _ b2, mA2n _ _ _ _ _ b1]; rfl
      · have := hne hM.1 y hy hy'
        rw [mA2n _ _ _ _ _ (by decide), mA2, if_pos rfl, if_neg this, mA2, if_pos rfl, if_neg this, mA2n _ _ _ _ _ (by decide)]
        exact ⟨rfl, rfl⟩
    · intro m k' v'
      refine bNK_ne (s := bsN s (mS (dm s) 18 (hz_n f1))) (s' := bsK (bsN s (mS (dm s) 18 (hz_n f1))) c r.length x w (mA (mA (mS (dm s) 18 (hz_n f1)) 28 q (hz_n (2 + (z : Int)))) 31 q v)) (q := q) (Nat.le_refl _) (Or.inr hM.2.2) ?_ ?_ ?_
      · intro y _ hy
        show (mA (mA (mS (dm s) 18 (hz_n f1)) 28 q (hz_n (2 + (z : Int)))) 31 q v).2 28 y = _
        rw [mA2n _ _ _ _ _ (by decide), mA2, if_pos rfl, if_neg hy]; rfl
      · intro y _ hy
        show (mA (mA (mS (dm s) 18 (hz_n f1)) 28 q (hz_n (2 + (z : Int)))) 31 q v).2 31 y = _
        rw [mA2, if_pos rfl, if_neg hy, mA2n _ _ _ _ _ (by decide)]; rfl
      · intro l y h _
        show (mA (mA (mS (dm s) 18 (hz_n f1)) 28 q (hz_n (2 + (z : Int)))) 31 q v).2 32 l = _
        rw [mA2n _ _ _ _ _ (by decide), mA2n _ _ _ _ _ (by decide)]; exact h
    · intro m hm
      have hm2 : dg s c = some m := hm
      rw [a5] at hm2
      have em := Option.some.inj hm2
      subst em
      refine ⟨k, v, Or.inl ⟨by omega, by rw [Int.toNat_natCast]; exact hM.1, z, z1, z2, ?_, ?_⟩, bVR_mono (bUp_same (S := S) (dfs := dfs) hsame I.2.2.2.2.2.2.1).1 vr⟩
      · rw [Int.toNat_natCast]
        show (mA (mA (mS (dm s) 18 (hz_n f1)) 28 q (hz_n (2 + (z : Int)))) 31 q v).2 28 q = _
        rw [mA2n _ _ _ _ _ (by decide), mA2, if_pos rfl, if_pos rfl]
      · rw [Int.toNat_natCast]
        show (mA (mA (mS (dm s) 18 (hz_n f1)) 28 q (hz_n (2 + (z : Int)))) 31 q v).2 31 q = _
        rw [mA2, if_pos rfl, if_pos rfl]
    · rw [mA2n _ _ _ _ _ (by decide), mA2n _ _ _ _ _ (by decide)]; rfl
    · refine bFix_k fx (fun _ _ => rfl) (fun _ _ => rfl) ?_ ?_ ?_
      · intro b b1 b2; show (mS (dm s) 18 (hz_n f1)).1 b = _; rw [mS1, if_neg (by omega)]
      · intro b hb; rw [mA2n _ _ _ _ _ (by omega), mA2n _ _ _ _ _ (by omega)]; rfl
      · intro j _; rw [mA2n _ _ _ _ _ (by decide), mA2n _ _ _ _ _ (by decide), mA2n _ _ _ _ _ (by decide), mA2n _ _ _ _ _ (by decide)]; exact ⟨rfl, rfl⟩
    · intro j _; rw [mA2n _ _ _ _ _ (by decide), mA2n _ _ _ _ _ (by decide), mA2n _ _ _ _ _ (by decide), mA2n _ _ _ _ _ (by decide)]; exact ⟨rfl, rfl⟩
  · refine main s (dm s) rfl rfl I K fr vr cnt ⟨rfl, fun _ _ _ => rfl, fun _ _ _ => ⟨rfl, rfl⟩⟩ (fun _ _ _ h => h) ?_ (bRun_refl _ _) (by rw [r18, a1]) h21 r22 r24 r25 rfl fx (fun _ _ => ⟨rfl, rfl⟩)
    intro m hm
    obtain ⟨_, _, i, p, e1, e2, e3⟩ := I.2.2.2.2.1 c m hm
    obtain ⟨T, DT⟩ := D i e2
    have := bKid_lt DT e3; have := b_le I
    omega
  · refine main s (dm s) rfl rfl I K fr vr cnt ⟨rfl, fun _ _ _ => rfl, fun _ _ _ => ⟨rfl, rfl⟩⟩ (fun _ _ _ h => h) ?_ (bRun_refl _ _) (by rw [r18, a1]) h21 r22 r24 r25 rfl fx (fun _ _ => ⟨rfl, rfl⟩)
    intro m hm
    rcases a5 with a5 | a5
    · rw [a5] at hm; exact absurd hm (by simp)
    · exact hnk m i p a2 a3 a4 a5 hm

theorem zEv {s : zD} {i p q : Nat} {x : Nat} (h : 40 * i + p = 40 * i + q) : p = q := by omega
-- the reference's need, when it is defined
theorem m_letter_ok {dfs : Nat → Option Nat} {ST : Nat → Nat → Int32} {l0 am : Nat} {S : zG} {s : zD} (I : bInv S dfs ST l0 am s) {f l : Nat} (hl : l < 26) (h18 : (dm s).1 18 = hz_n f) (hf : f < 2150) (hn : dnp s < 1000) : ∃ μ', m_letter (dm s) (hz_n l) = some μ' := by
  have h15 := I.2.1.2.2.2.2.2.2.2.2.1
  unfold m_letter
  rw [zt l (by omega), zgd_t (by omega), Int.toNat_natCast]
  split
  · exact ⟨_, rfl⟩
  · split
    · exact ⟨_, rfl⟩
    · unfold m_body
      rw [zt l (by omega), zgd_t (by omega), Int.toNat_natCast]
      rcases I.2.2.2.1 l hl with ⟨_, h⟩ | ⟨_, i, q, _, _, _, hq, _, _, h, _⟩
      · rw [h, zn_ti (by omega), if_pos (by omega), h15, zt (dnp s) (by omega), zgd_t (by omega), zn_add, zn_sub]
        unfold m_body2
        have e : (dnp s : Int) + 1 - 1 = dnp s := by omega
        rw [e, zt (dnp s) (by omega), zgd_t (by omega)]
        split
        · exact ⟨_, rfl⟩
        · split
          · exact ⟨_, rfl⟩
          · refine ⟨_, zgd_t ?_⟩
            have : (mA (m_newPromise (dm s) (hz_n 40 * hz_n l) (hz_n (-1))) 32 l (hz_n (dnp s))).1 18 = hz_n f := by
              rw [mA1]; unfold m_newPromise; rw [mS1, if_neg (by decide)]; exact h18
            rw [this, zt f (by omega)]; omega
      · rw [h, zt q (by omega), if_neg (by omega)]
        unfold m_body2
        rw [zt q (by omega), zgd_t (by omega)]
        split
        · exact ⟨_, rfl⟩
        · split
          · exact ⟨_, rfl⟩
          · refine ⟨_, zgd_t ?_⟩
            rw [mA1, h18, zt f (by omega)]; omega
theorem m_need_ok {dfs : Nat → Option Nat} {ST : Nat → Nat → Int32} {l0 am : Nat} {S : zG} {s : zD} (I : bInv S dfs ST l0 am s) {f : Nat} {m : Int} (hm : -55 ≤ m ∧ m < 1000) (h18 : (dm s).1 18 = hz_n f) (hf : f < 2150) (hn : dnp s < 1000) : ∃ μ', m_need (dm s) (hz_n m) = some μ' := by
  unfold m_need
  rw [zn_ti (by omega)]
  split
  · rename_i h
    obtain ⟨l, hl⟩ : ∃ l : Nat, m = -30 - (l : Int) := ⟨(-30 - m).toNat, by omega⟩
    have e : hz_n (-30) - hz_n m = hz_n l := by rw [zn_sub]; congr 1; omega
    rw [e]
    exact m_letter_ok I (by omega) h18 hf hn
  · split
    · exact ⟨_, rfl⟩
    · rw [zgd_t (by omega)]
      split
      · exact ⟨_, rfl⟩
      · split
        · exact ⟨_, rfl⟩
        · exact ⟨_, zgd_t (by rw [h18, zt f (by omega)]; omega)⟩
theorem m_found1 {μ : zM} {k v : Int32} {b : Nat} (h : b ≠ 22) (h' : b ≠ 24) (h'' : b ≠ 25) : (m_found μ k v).1 b = μ.1 b := by
  unfold m_found; rw [mS1, if_neg h'', mS1, if_neg h', mS1, if_neg h]
theorem m_evaluate1 {μ : zM} {k v : Int32} {b : Nat} (h : b ≠ 22) (h' : b ≠ 23) (h'' : b ≠ 24) : (m_evaluate μ k v).1 b = μ.1 b := by
  unfold m_evaluate; rw [mS1, if_neg h'', mS1, if_neg h', mS1, if_neg h]
theorem m_evaluate2 {μ : zM} {k v : Int32} : (m_evaluate μ k v).2 = μ.2 := rfl
theorem m_found2 {μ : zM} {k v : Int32} : (m_found μ k v).2 = μ.2 := rfl
theorem bFix_found {kw : zK} {mw : zM} {f0 : Nat} {κ : zK} {μ : zM} {k v : Int32} (h : bFix kw mw f0 κ μ) : bFix kw mw f0 κ (m_found μ k v) :=
  bFix_k h (fun _ _ => rfl) (fun _ _ => rfl) (fun b b1 b2 => m_found1 (by omega) (by omega) (by omega)) (fun _ _ => rfl) (fun _ _ => ⟨rfl, rfl⟩)
theorem bFix_eval {kw : zK} {mw : zM} {f0 : Nat} {κ : zK} {μ : zM} {k v : Int32} (h : bFix kw mw f0 κ μ) : bFix kw mw f0 κ (m_evaluate μ k v) :=
  bFix_k h (fun _ _ => rfl) (fun _ _ => rfl) (fun b b1 b2 => m_evaluate1 (by omega) (by omega) (by omega)) (fun _ _ => rfl) (fun _ _ => ⟨rfl, rfl⟩)
-- the top is looked at for the first time
theorem bEval {E : Nat → Option zT} {dfs : Nat → Option Nat} {ST : Nat → Nat → Int32} {F l0 am f0 g wn wr : Nat} {S : zG} {kw : zK} {mw : zM} {s : zD} {c : Nat} {r : List Nat} {f1 f2 : Nat}
    (hF : 951 ≤ F) (st : bSta E dfs ST F S) (I : bInv S dfs ST l0 am s) (K : bStk S s (c :: r)) (fx : bFix kw mw f0 (dk s) (dm s)) (h5 : (dk s).1 5 = hz_n 0) (hg : (c :: r).getLast? = some g) (fr : bFr S l0 f0 s r c f1) (kf : bKF S s c f1 f2) (hf2 : f2 < 2150) (hn : dnp s < 1000)
    (h21 : (dm s).1 21 = hz_n 0) (pe : bPe S s c f2 (dm s)) {i p : Nat} (hc : c = 40 * i + p) (hi : i < de s) (hcl : s_cl S (dl s i) p = 1) (cnt : bCnt S s wn wr (ind (s_op S (dl s i) p = 1)) 0 0 0) :
    bOutc S dfs ST F l0 am f0 g wn wr kw mw (ghs s) (dk s) (dm s) := by
  obtain ⟨T, D⟩ := bDefs_of st I i hi
  obtain ⟨sh, hp, hi50, h6⟩ := zsg st I hi hcl
  have hN := D.2.2.2.2.2.2.2.2.2.2.2.2.2 p hcl
  have hop := bShop sh
  have hl := (I.2.2.1 i hi).1
  have x1 : c / 40 = i := by omega
  have x2 : c % 40 = p := by omega
  have hge := bFr_ge fr
  obtain ⟨i', p', e1, _, hp2, vir, k9, k10, env, e2, r18, r22, r23⟩ := id pe
  obtain ⟨T2, D2⟩ := bDefs_of st I i' ‹_›
  have hp2' := bKid_lt D2 hp2
  have y1 : i' = i := by omega
  have y2 : p' = p := by omega
  subst y1; subst y2
  have e21 : (dm s).2 21 = ST 21 := I.1.1 21 (by decide) (by decide)
  have e22 : (dm s).2 22 = ST 22 := I.1.1 22 (by decide) (by decide)
  have hb : dnb s ≤ 950 := I.2.1.2.2.2.2.2.2.2.2.2.2.2.2.2
  have hstep : m_step (dm s) F = m_step (dm s) F := rfl
  conv at hstep => rhs; unfold m_step
  rw [r22, r23, zt _ (by omega), zgd_t (by omega), Int.toNat_natCast, e21, e22, hN.2.2.2.2.2.2.2.2.1, zt (s_op S (dl s i') p') (by omega)] at hstep
  by_cases o5 : 5 ≤ s_op S (dl s i') p'
  · refine ⟨dm s, bRun_refl _ _, Or.inl ⟨s, c :: r, rfl, ⟨I, K, fx, h5, hg, f1, f2, fr, kf, hge, Or.inl ⟨pe, ?_, bCnt_ps (Nat.le_refl _) (Nat.zero_le _) cnt, h21⟩⟩, ghL_r _⟩⟩
    rw [x1, x2]; exact o5
  by_cases o1 : s_op S (dl s i') p' = 1
  · obtain ⟨b1, b2, b3, b4⟩ := bSh1 sh o1
    have ag : bAg s (dm s) := ⟨⟨rfl, rfl, rfl, rfl⟩, fun _ _ _ _ => rfl, fun _ _ => rfl⟩
    obtain ⟨t, m, t1, t2, t3⟩ := m_lookT hF ag hb env b3
    rw [if_pos (by omega), hN.2.2.2.2.2.2.2.2.2.1 (by omega), t3, Option.bind_some] at hstep
    obtain ⟨hm1, hm2, _⟩ := I.2.2.2.2.1 t m t2
    obtain ⟨μ', hμ⟩ := m_need_ok I ⟨hm1, hm2⟩ r18 hf2 hn
    rw [hμ] at hstep
    refine ⟨μ', bRun_step h21 r22 (by omega) hstep, Or.inl ⟨s, c :: r, rfl, ⟨I, K, fx, h5, hg, f1, f2, fr, kf, hge, Or.inr (Or.inl ⟨m, 1, Or.inr ⟨i', p', e1, hi, hcl, Or.inl ⟨o1, rfl, t, t1, t2, ?_⟩⟩, hμ, r18, ?_, h21⟩)⟩, ghL_r _⟩⟩
    · cases hgc : dg s c with
      | none => exact Or.inl rfl
      | some mc =>
        rw [e1] at hgc
        rcases ((I.2.2.2.2.2.2.2 i' p' hi hcl).2.1 mc hgc).1 with ⟨ho, _⟩ | ⟨_, _, ho⟩
        · exact Or.inr (Or.inl ho)
        · rcases ho with ⟨_, t', a1, a2, a3⟩ | ⟨ho, _⟩ | ⟨ho, _⟩ | ⟨ho, _⟩
          · rw [t1] at a1
            have := Option.some.inj a1
            subst this
            rw [e1]; exact Or.inr (Or.inr a3)
          · omega
          · omega
          · omega
    · rw [ind_t o1] at cnt; exact cnt
  · rw [ind_f o1] at cnt
    rw [if_neg (by omega)] at hstep
    by_cases o2 : s_op S (dl s i') p' = 2
    · rw [if_pos (by omega), hN.2.2.2.2.2.2.2.2.2.1 (by omega)] at hstep
      have hsame : bSame (fun _ => False) s (bsN s (m_found (dm s) (hz_n 0) (hz_n (s_vl S (dl s i') p')))) := bsN_same ⟨⟨rfl, rfl, rfl, rfl, rfl⟩, fun _ _ _ => rfl⟩
      refine ⟨_, bRun_step h21 r22 (by omega) hstep, Or.inl ⟨bsN s (m_found (dm s) (hz_n 0) (hz_n (s_vl S (dl s i') p'))), c :: r, rfl, ⟨bInv_same st I hsame, bStk_same hsame rfl rfl K, bFix_found fx, h5, hg, f1, f2, bFr_same I (bDefs_of st I) hsame (fun _ _ => id) (fun _ _ => ⟨rfl, rfl⟩) fr, bKF_same I hsame (fun _ _ => rfl) kf, hge, Or.inr (Or.inr (Or.inl ⟨i', p', hz_n 0, hz_n (s_vl S (dl s i') p'), e1, hi, hcl, ⟨rfl, r18, rfl, rfl, rfl⟩, Or.inl ⟨o2, rfl, rfl⟩, bCnt_same hsame cnt, h21⟩))⟩, ghL_r _⟩⟩
    · rw [if_neg (by omega)] at hstep
      by_cases o3 : s_op S (dl s i') p' = 3
      · have b2 := bSh3 sh o3
        rw [if_pos (by omega), hN.2.2.2.2.2.2.2.2.2.1 (by omega)] at hstep
        obtain ⟨μ', hμ⟩ := m_letter_ok I b2.2 r18 hf2 hn
        rw [hμ] at hstep
        have hnd : m_need (dm s) (hz_n (-30 - (s_vl S (dl s i') p' : Int))) = some μ' := by
          unfold m_need
          have e : hz_n (-30) - hz_n (-30 - (s_vl S (dl s i') p' : Int)) = hz_n (s_vl S (dl s i') p') := by rw [zn_sub]; congr 1; omega
          rw [zn_ti (by omega), if_pos (by omega), e]; exact hμ
        refine ⟨μ', bRun_step h21 r22 (by omega) hstep, Or.inl ⟨s, c :: r, rfl, ⟨I, K, fx, h5, hg, f1, f2, fr, kf, hge, Or.inr (Or.inl ⟨-30 - (s_vl S (dl s i') p' : Int), 0, Or.inr ⟨i', p', e1, hi, hcl, Or.inr ⟨o3, rfl, rfl⟩⟩, hnd, r18, cnt, h21⟩)⟩, ghL_r _⟩⟩
      · have o4 : s_op S (dl s i') p' = 4 := by omega
        rw [if_neg (by omega), if_pos (by omega)] at hstep
        have hsame : bSame (fun _ => False) s (bsN s (m_found (dm s) (hz_n 1) (hz_n 0))) := bsN_same ⟨⟨rfl, rfl, rfl, rfl, rfl⟩, fun _ _ _ => rfl⟩
        refine ⟨_, bRun_step h21 r22 (by omega) hstep, Or.inl ⟨bsN s (m_found (dm s) (hz_n 1) (hz_n 0)), c :: r, rfl, ⟨bInv_same st I hsame, bStk_same hsame rfl rfl K, bFix_found fx, h5, hg, f1, f2, bFr_same I (bDefs_of st I) hsame (fun _ _ => id) (fun _ _ => ⟨rfl, rfl⟩) fr, bKF_same I hsame (fun _ _ => rfl) kf, hge, Or.inr (Or.inr (Or.inl ⟨i', p', hz_n 1, hz_n 0, e1, hi, hcl, ⟨rfl, r18, rfl, rfl, rfl⟩, Or.inr ⟨o4, rfl⟩, bCnt_same hsame cnt, h21⟩))⟩, ghL_r _⟩⟩

def lsum (g : Nat → Nat) : List Nat → Nat
  | [] => 0
  | a :: l => g a + lsum g l
theorem lsum_eq {g : Nat → Nat} {n : Nat} : ∀ {l : List Nat}, l.Nodup → (∀ x, x ∈ l → x < n) → lsum g l = sumN (fun c => ind (c ∈ l) * g c) n
  | [], _, _ => by
    have : ∀ n, sumN (fun c => ind (c ∈ ([] : List Nat)) * g c) n = 0 := by
      intro n
      induction n with
      | zero => rfl
      | succ n ih =>
        show sumN _ n + ind (n ∈ ([] : List Nat)) * g n = 0
        rw [ih, ind_f (by simp)]; omega
    rw [this]; rfl
  | a :: l, hn, hb => by
    obtain ⟨n1, n2⟩ := List.nodup_cons.mp hn
    show g a + lsum g l = _
    rw [lsum_eq n2 (fun x hx => hb x (List.mem_cons_of_mem _ hx))]
    rw [sumN_upd (f := fun c => ind (c ∈ l) * g c) (g := fun c => ind (c ∈ a :: l) * g c) (a := a) (k := g a) (hb a (List.mem_cons_self ..))]
    · omega
    · show ind (a ∈ a :: l) * g a = ind (a ∈ l) * g a + g a
      rw [ind_t (List.mem_cons_self ..), ind_f n1]; omega
    · intro c _ hc
      show ind (c ∈ a :: l) * g c = ind (c ∈ l) * g c
      rw [ind_c (p := c ∈ a :: l) (q := c ∈ l)]
      constructor
      · intro h; rcases List.mem_cons.mp h with h | h
        · exact absurd h hc
        · exact h
      · exact List.mem_cons_of_mem _
theorem lsum_le {g : Nat → Nat} {n : Nat} {l : List Nat} (hn : l.Nodup) (hb : ∀ x, x ∈ l → x < n) : lsum g l ≤ sumN g n := by
  rw [lsum_eq hn hb]
  refine sumN_le fun c _ => ?_
  have := ind_le (c ∈ l)
  calc ind (c ∈ l) * g c ≤ 1 * g c := Nat.mul_le_mul_right _ this
    _ = g c := Nat.one_mul _
theorem sumN_const (n m : Nat) : sumN (fun _ => m) n = n * m := by
  induction n with
  | zero => show 0 = _; omega
  | succ n ih => show sumN _ n + m = _; rw [ih, Nat.succ_mul]
theorem nodup_len {n : Nat} {l : List Nat} (hn : l.Nodup) (hb : ∀ x, x ∈ l → x < n) : l.length ≤ n := by
  have e : ∀ l : List Nat, lsum (fun _ => 1) l = l.length := by
    intro l
    induction l with
    | nil => rfl
    | cons a l ih => show 1 + lsum _ l = l.length + 1; rw [ih]; omega
  have := lsum_le (g := fun _ => 1) hn hb
  rw [e, sumN_const] at this; omega
theorem bStk_len {E : Nat → Option zT} {dfs : Nat → Option Nat} {ST : Nat → Nat → Int32} {F l0 am : Nat} {S : zG} {s : zD} {sk : List Nat} (st : bSta E dfs ST F S) (I : bInv S dfs ST l0 am s) (K : bStk S s sk) {d : Nat} (hd : d < 2001) (h0 : ks s d = hz_n 0) : sk.length < 2001 := by
  have hnm : d ∉ sk := fun h => by
    have := (K.2.2.2.1 _ h).1; rw [h0] at this; exact absurd this (by decide)
  have := nodup_len (n := 2001) (List.nodup_cons.mpr ⟨hnm, K.2.2.1⟩) (by
    intro x hx
    rcases List.mem_cons.mp hx with hx | hx
    · omega
    · rcases (K.2.2.2.1 _ hx).2 with h | ⟨i, p, h1, h2, h3⟩
      · omega
      · have := (zsg st I h2 h3).2.2.2; omega)
  simp at this
  omega
-- a part is gone down to
theorem bDown {E : Nat → Option zT} {dfs : Nat → Option Nat} {ST : Nat → Nat → Int32} {F l0 am f0 g wn wr : Nat} {S : zG} {kw : zK} {mw : zM} {s : zD} {c : Nat} {r : List Nat} {f1 f2 f i p : Nat} {a : Int}
    (hF : 951 ≤ F) (st : bSta E dfs ST F S) (I : bInv S dfs ST l0 am s) (K : bStk S s (c :: r)) (fx : bFix kw mw f0 (dk s) (dm s)) (h5 : (dk s).1 5 = hz_n 0) (hg : (c :: r).getLast? = some g) (fr : bFr S l0 f0 s r c f1) (kf : bKF S s c f1 f2) (wt : bWt S l0 s c (40 * i + p) f2 f)
    (hf : f < 2150) (hn : dnp s < 1000) (h21 : (dm s).1 21 = hz_n 0) (hi : i < de s) (hcl : s_cl S (dl s i) p = 1) (h0 : ks s (40 * i + p) = hz_n 0) (hro : (s_ro S (dl s i) p = 0 ∧ c = 40 * i + s_pa S (dl s i) p) ∨ s_ro S (dl s i) p = 3) (hgn : dg s (40 * i + p) = none)
    (r18 : (dm s).1 18 = hz_n f) (r22 : (dm s).1 22 = hz_n (40 * dl s i + s_nd S (dl s i) p : Nat)) (r23 : (dm s).1 23 = hz_n a) (env : bEnv S s i (dl s i) p a) (cnt : bCnt S s wn wr 0 0 0 0) :
    bOutc S dfs ST F l0 am f0 g wn wr kw mw (ghs s) (kPush (dk s) (40 * i + p) (r.length + 1)) (dm s) := by
  have D := bDefs_of st I
  obtain ⟨T, DT⟩ := D i hi
  obtain ⟨sh, hp, hi50, h6⟩ := zsg st I hi hcl
  have hb : dnb s ≤ 950 := I.2.1.2.2.2.2.2.2.2.2.2.2.2.2.2
  have hl := b_le I
  have hkc := (K.2.2.2.1 c (List.mem_cons_self ..)).1
  obtain ⟨I1, K1⟩ := bPush st I K hi hcl h0 (by
    intro h1 _ h2
    rcases hro with ⟨_, h3⟩ | h3
    · rw [← h3, hkc] at h2; exact absurd h2 (by decide)
    · omega) (Or.inl ⟨hgn, by omega, by omega⟩) a
  have u := bP_up (S := S) (dfs := dfs) (s := s) (c := 40 * i + p) (n := (c :: r).length) (a := a) I.2.2.2.2.2.2.1
  have hk : ∀ l, (dk s).2.1 5 l ≠ hz_n (-1) → (dk (bsP s (40 * i + p) (c :: r).length a)).2.1 5 l = (dk s).2.1 5 l := fun l _ => bsP_k _ _ _ _ 5 _ (by simp)
  obtain ⟨n1, n2⟩ := List.nodup_cons.mp K.2.2.1
  have hnm : (40 * i + p) ∉ c :: r := (List.nodup_cons.mp K1.2.2.1).1
  have ho : ∀ x e, x ∈ r → x = 2000 ∨ ∀ i' p', x = 40 * i' + p' → i' < de s → s_cl S (dl s i') p' = 1 → bOut S s (· = 40 * i + p) (fun _ => False) (fun _ => False) (fun _ => False) i' p' e := by
    intro x e hx
    refine Or.inr fun i' p' he hi' hc' => ⟨?_, id, id, fun q q1 q2 => ⟨fun q3 _ q4 => ?_, id⟩, fun _ _ _ => id⟩
    · intro h
      have h' : 40 * i' + p' = 40 * i + p := h
      have : x = 40 * i + p := by rw [he]; exact h'
      exact hnm (List.mem_cons_of_mem _ (this ▸ hx))
    · obtain ⟨T', DT'⟩ := D i' hi'
      have := bKid_lt DT' q1
      have h' : 40 * i' + q = 40 * i + p := q4
      have e1 : i' = i := by omega
      subst e1
      have e2 : q = p := by omega
      subst e2
      rcases hro with ⟨_, h3⟩ | h3
      · rw [q2, ← he] at h3; exact n1 (h3 ▸ hx)
      · omega
  have ho' : c = 2000 ∨ ∀ i' p', c = 40 * i' + p' → i' < de s → s_cl S (dl s i') p' = 1 → bOut S s (· = 40 * i + p) (fun _ => False) (fun _ => False) (fun _ => False) i' p' (40 * i + p) := by
    refine Or.inr fun i' p' he hi' hc' => ⟨?_, id, id, fun q q1 q2 => ⟨fun q3 q4 q5 => q4 q5, id⟩, fun _ _ _ => id⟩
    intro h
    have h' : 40 * i' + p' = 40 * i + p := h
    have : c = 40 * i + p := by rw [he]; exact h'
    exact hnm (this ▸ List.mem_cons_self ..)
  have fr1 : bFr S l0 f0 (bsP s (40 * i + p) (c :: r).length a) (c :: r) (40 * i + p) f :=
    ⟨f1, f2, bFr_up hl hb u D hk ho (fun _ _ => id) (fun _ _ => ⟨rfl, rfl⟩) fr, bKF_up u id (fun _ _ => rfl) kf, bWt_up hl hb u D hk ho' (fun _ _ => ⟨rfl, rfl⟩) wt⟩
  have hfx : bFix kw mw f0 (dk (bsP s (40 * i + p) (c :: r).length a)) (dm s) := by
    refine bFix_k fx ?_ ?_ (fun _ _ _ => rfl) (fun _ _ => rfl) (fun _ _ => ⟨rfl, rfl⟩)
    · intro b hb; exact kPush_fix.1 b (by omega)
    · intro b hb; exact kPush_fix.2 b (by omega) (by omega) (by omega) (by omega)
  refine bEval (s := bsP s (40 * i + p) (c :: r).length a) (c := 40 * i + p) (r := c :: r) (f1 := f) (f2 := f) hF st I1 K1 hfx ?_ ?_ fr1 (Or.inr (Or.inr ⟨rfl, i, p, rfl, hi, hcl, Or.inl hgn⟩)) hf hn h21 ?_ rfl hi hcl ?_
  · show (kPush _ _ _).1 5 = _; rw [kPush_fix.1 5 (by decide)]; exact h5
  · rw [List.getLast?_cons_cons]; exact hg
  · have hda : da (bsP s (40 * i + p) (c :: r).length a) (40 * i + p) = a := if_pos rfl
    refine ⟨i, p, rfl, hi, hcl, ?_, ?_, ?_, ?_, rfl, r18, r22, ?_⟩
    · obtain ⟨v1, v2⟩ := (I.2.2.2.2.2.2.2 i p hi hcl).1 h0
      refine ⟨fun q q1 q2 => ⟨fun q3 => ?_, (v1 q q1 q2).2⟩, v2⟩
      rw [bsP_ks, if_neg]
      · exact (v1 q q1 q2).1 q3
      · intro e
        have : q = p := by omega
        subst this
        have q2' : s_pa S (dl s i) q = q := q2
        rcases hro with ⟨_, h3⟩ | h3
        · rw [q2'] at h3; exact hnm (h3 ▸ List.mem_cons_self ..)
        · have q3' : s_ro S (dl s i) q = 0 := q3
          omega
    · rw [bsP_9, if_pos rfl]
    · rw [bsP_10, if_pos rfl]
    · rw [hda]; exact bEnv_mono hb u.1 env
    · rw [hda]; exact r23
  · have := bCnt_push (n := (c :: r).length) (a := a) hi hp hcl h0 (Or.inl hgn) cnt
    rw [Nat.zero_add] at this
    exact this

theorem m_stF {μ : zM} {f w a : Nat} {b : Int32} (h18 : μ.1 18 = hz_n f) (hf : f < 2150) (hw : w ≤ 10) (ha : a < 4096) : m_stack μ (hz_n w) (hz_n a) b = mS (mA (mA μ 37 f (hz_n (4096 * w + a : Nat))) 38 f b) 18 (hz_n (f + 1 : Nat)) := by
  unfold m_stack
  rw [h18, zt f (by omega), Int.toNat_natCast, zn_mul, zn_add, zn1]
  have e : (4096 : Int) * (w : Int) + (a : Int) = ((4096 * w + a : Nat) : Int) := by omega
  rw [e]
theorem bNoKid {E : Nat → Option zT} {dfs : Nat → Option Nat} {ST : Nat → Nat → Int32} {F l0 am : Nat} {S : zG} {s : zD} {sk : List Nat} (st : bSta E dfs ST F S) (I : bInv S dfs ST l0 am s) {i p : Nat} (hi : i < de s) (hcl : s_cl S (dl s i) p = 1) (hnm : (40 * i + p) ∉ sk) (hro : s_ro S (dl s i) p ≠ 0) :
    ∀ x e, x ∈ sk → x = 2000 ∨ ∀ i' p', x = 40 * i' + p' → i' < de s → s_cl S (dl s i') p' = 1 → bOut S s (· = 40 * i + p) (fun _ => False) (fun _ => False) (fun _ => False) i' p' e := by
  intro x e hx
  refine Or.inr fun i' p' he hi' hc' => ⟨?_, id, id, fun q q1 q2 => ⟨fun q3 _ q4 => ?_, id⟩, fun _ _ _ => id⟩
  · intro h
    have h' : 40 * i' + p' = 40 * i + p := h
    have : x = 40 * i + p := by rw [he]; exact h'
    exact hnm (this ▸ hx)
  · have h1 := (zsg st I hi' q1).2.1
    have h2 := (zsg st I hi hcl).2.1
    have h' : 40 * i' + q = 40 * i + p := q4
    have e1 : i' = i := by omega
    subst e1
    have e2 : q = p := by omega
    subst e2
    exact hro q3
-- a promise that is untouched is needed
theorem bGo {E : Nat → Option zT} {dfs : Nat → Option Nat} {ST : Nat → Nat → Int32} {F l0 am f0 g wn wr : Nat} {S : zG} {kw : zK} {mw : zM} {s : zD} {sk : List Nat} {f i p : Nat} {m : Int} {μ : zM}
    (hF : 951 ≤ F) (st : bSta E dfs ST F S) (I : bInv S dfs ST l0 am s) (K : bStk S s sk) (fx : bFix kw mw f0 (dk s) (dm s)) (h5 : (dk s).1 5 = hz_n 0) (hg : ((40 * i + p) :: sk).getLast? = some g) (fr : bFr S l0 f0 s sk (40 * i + p) f)
    (hf : f + 1 < 2150) (hn : dnp s < 1000) (h21 : (dm s).1 21 = hz_n 0) (hi : i < de s) (hcl : s_cl S (dl s i) p = 1) (h0 : ks s (40 * i + p) = hz_n 0) (hgm : dg s (40 * i + p) = some m)
    (r18 : (dm s).1 18 = hz_n f) (hnd : m_need (dm s) (hz_n m) = some μ) (cnt : bCnt S s wn wr 1 0 0 0) :
    bOutc S dfs ST F l0 am f0 g wn wr kw mw (ghs s) (kPush (dk s) (40 * i + p) sk.length) μ := by
  have D := bDefs_of st I
  obtain ⟨T, DT⟩ := D i hi
  obtain ⟨sh, hp, hi50, h6⟩ := zsg st I hi hcl
  have hb : dnb s ≤ 950 := I.2.1.2.2.2.2.2.2.2.2.2.2.2.2.2
  have hl := b_le I
  have hge := bFr_ge fr
  have hlt := (I.2.2.1 i hi).1
  have hN := DT.2.2.2.2.2.2.2.2.2.2.2.2.2 p hcl
  have hnm : (40 * i + p) ∉ sk := fun h => by
    have := (K.2.2.2.1 _ h).1; rw [h0] at this; exact absurd this (by decide)
  have hop := bShop sh
  obtain ⟨M1, M2⟩ := (I.2.2.2.2.2.2.2 i p hi hcl).2.1 m hgm
  have vir := (I.2.2.2.2.2.2.2 i p hi hcl).1 h0
  rcases M1 with ⟨ho, q, e1, m1, m2, m3, m4, m5, m6, m7⟩ | ⟨hr, ho, hat⟩
  · -- a promise of its own
    subst e1
    have hro : s_ro S (dl s i) p ≠ 0 := by rcases ho with h | h | h <;> omega
    obtain ⟨I1, K1, u1⟩ := bPushO st I K hi hcl h0 ho hgm
    have hq := I.2.2.2.2.1 _ _ hgm
    have hμ : μ = m_evaluate (mS (mA (mA (mA (dm s) 28 q (hz_n 1)) 37 f (hz_n (4096 * 1 + q : Nat))) 38 f (hz_n 0)) 18 (hz_n (f + 1 : Nat))) (hz_n (40 * dl s i + s_nd S (dl s i) p : Nat)) (hz_n (da s (40 * i + p))) := by
      unfold m_need at hnd
      rw [zt q (by omega), if_neg (by omega), if_neg (by omega), zgd_t (by omega), Int.toNat_natCast, m6 h0, m3, m4, zn_ti (by omega), if_neg (by omega), if_neg (by omega), r18, zt f (by omega), zgd_t (by omega)] at hnd
      have e : m_stack (mA (dm s) 28 q (hz_n 1)) (hz_n 1) (hz_n q) (hz_n 0) = _ := m_stF (μ := mA (dm s) 28 q (hz_n 1)) (w := 1) (a := q) (b := hz_n 0) r18 (by omega) (by omega) (by omega)
      rw [e] at hnd
      exact (Option.some.inj hnd).symm
    have hsame : bSame (fun _ => False) (bsO s (40 * i + p) sk.length q) (bsN (bsO s (40 * i + p) sk.length q) μ) := by
      refine bsN_same ⟨?_, ?_⟩
      · rw [hμ]; exact ⟨rfl, rfl, rfl, rfl, rfl⟩
      · intro b b1 b2
        rw [hμ]
        show (mS (mA (mA (mA (dm s) 28 q (hz_n 1)) 37 f (hz_n (4096 * 1 + q : Nat))) 38 f (hz_n 0)) 18 (hz_n (f + 1 : Nat))).2 b = _
        rw [mS2, mA2n _ _ _ _ _ (by omega), mA2n _ _ _ _ _ (by omega)]; rfl
    have h37 : ∀ j, j < f → μ.2 37 j = (dm s).2 37 j ∧ μ.2 38 j = (dm s).2 38 j := by
      intro j hj
      rw [hμ]
      show (mS (mA (mA (mA (dm s) 28 q (hz_n 1)) 37 f (hz_n (4096 * 1 + q : Nat))) 38 f (hz_n 0)) 18 (hz_n (f + 1 : Nat))).2 37 j = _ ∧ (mS (mA (mA (mA (dm s) 28 q (hz_n 1)) 37 f (hz_n (4096 * 1 + q : Nat))) 38 f (hz_n 0)) 18 (hz_n (f + 1 : Nat))).2 38 j = _
      rw [mS2, mA2n _ _ _ _ _ (by decide), mA2, if_pos rfl, if_neg (by omega), mA2n _ _ _ _ _ (by decide), mA2, if_pos rfl, if_neg (by omega), mA2n _ _ _ _ _ (by decide), mA2n _ _ _ _ _ (by decide)]
      exact ⟨rfl, rfl⟩
    have fr1 : bFr S l0 f0 (bsO s (40 * i + p) sk.length q) sk (40 * i + p) f :=
      bFr_up hl hb u1 D (fun l _ => bsP_k s _ _ 0 5 _ (by simp)) (bNoKid st I hi hcl hnm hro) (fun _ _ => id) (fun j _ => by rw [bsO_mn _ _ _ _ _ (by decide), bsO_mn _ _ _ _ _ (by decide)]; exact ⟨rfl, rfl⟩) fr
    have fr2 : bFr S l0 f0 (bsN (bsO s (40 * i + p) sk.length q) μ) sk (40 * i + p) f :=
      bFr_same I1 (bDefs_of st I1) hsame (fun _ _ => id) (fun j hj => by
        rw [bsO_mn _ _ _ _ _ (by decide), bsO_mn _ _ _ _ _ (by decide)]; exact h37 j hj) fr1
    have kf2 : bKF S (bsN (bsO s (40 * i + p) sk.length q) μ) (40 * i + p) f (f + 1) := by
      refine Or.inl ⟨i, p, q, rfl, hi, hcl, ho, hgm, ?_, rfl⟩
      show μ.2 37 f = _
      rw [hμ]
      show (mS (mA (mA (mA (dm s) 28 q (hz_n 1)) 37 f (hz_n (4096 * 1 + q : Nat))) 38 f (hz_n 0)) 18 (hz_n (f + 1 : Nat))).2 37 f = _
      rw [mS2, mA2n _ _ _ _ _ (by decide), mA2, if_pos rfl, if_pos rfl]
    have cnt2 := bCnt_same hsame (bCnt_own (n := sk.length) (q := q) (cr := 0) hi hp hcl h0 ho (by rw [hgm]; simp) cnt)
    rw [Nat.zero_add] at cnt2
    refine bEval (s := bsN (bsO s (40 * i + p) sk.length q) μ) (c := 40 * i + p) (r := sk) (f1 := f) (f2 := f + 1) hF st (bInv_same st I1 hsame) (bStk_same hsame rfl rfl K1) ?_ ?_ hg fr2 kf2 hf hn ?_ ?_ rfl hi hcl cnt2
    · refine bFix_k fx ?_ ?_ ?_ ?_ ?_
      · intro b hb; exact kPush_fix.1 b (by omega)
      · intro b hb; exact kPush_fix.2 b (by omega) (by omega) (by omega) (by omega)
      · intro b b1 b2
        show μ.1 b = _
        rw [hμ, m_evaluate1 (by omega) (by omega) (by omega), mS1, if_neg (by omega)]; rfl
      · intro b hb
        show μ.2 b = _
        rw [hμ]
        show (mS (mA (mA (mA (dm s) 28 q (hz_n 1)) 37 f (hz_n (4096 * 1 + q : Nat))) 38 f (hz_n 0)) 18 (hz_n (f + 1 : Nat))).2 b = _
        rw [mS2, mA2n _ _ _ _ _ (by omega), mA2n _ _ _ _ _ (by omega), mA2n _ _ _ _ _ (by omega)]
      · intro j hj; exact h37 j (by omega)
    · show (kPush _ _ _).1 5 = _; rw [kPush_fix.1 5 (by decide)]; exact h5
    · show μ.1 21 = _
      rw [hμ, m_evaluate1 (by omega) (by omega) (by omega), mS1, if_neg (by omega)]; exact h21
    · have hb1 : dnb (bsO s (40 * i + p) sk.length q) ≤ 950 := hb
      refine ⟨i, p, rfl, hi, hcl, ?_, ?_, ?_, ?_, rfl, ?_, ?_, ?_⟩
      · refine ⟨fun x x1 x2 => ⟨fun x3 => ?_, (vir.1 x x1 x2).2⟩, vir.2⟩
        show ks (bsO s (40 * i + p) sk.length q) _ = _
        rw [bsO_ks, if_neg]
        · exact (vir.1 x x1 x2).1 x3
        · intro e
          have : x = p := by omega
          subst this
          exact hro x3
      · have := bsP_9 s (40 * i + p) sk.length 0 (40 * i + p); rw [if_pos rfl] at this; exact this
      · have := bsP_10 s (40 * i + p) sk.length 0 (40 * i + p); rw [if_pos rfl] at this; exact this
      · exact bEnv_mono hb1 (bUp_same (S := S) (dfs := dfs) hsame I1.2.2.2.2.2.2.1).1 (bEnv_mono hb u1.1 m5)
      · show μ.1 18 = _; rw [hμ, m_evaluate1 (by omega) (by omega) (by omega), mS1, if_pos rfl]
      · show μ.1 22 = _; rw [hμ]; rfl
      · show μ.1 23 = _; rw [hμ]; rfl
  · -- an atom
    have hno : ¬ bOwn S (dl s i) p := by intro h; rcases h with h | h | h <;> omega
    obtain ⟨I1, K1⟩ := bPush st I K hi hcl h0 (fun h => by omega) (Or.inr ⟨by rw [hgm]; simp, hno⟩) 0
    have u1 := bP_up (S := S) (dfs := dfs) (s := s) (c := 40 * i + p) (n := sk.length) (a := 0) I.2.2.2.2.2.2.1
    have fr1 : bFr S l0 f0 (bsP s (40 * i + p) sk.length 0) sk (40 * i + p) f :=
      bFr_up hl hb u1 D (fun l _ => bsP_k s _ _ 0 5 _ (by simp)) (bNoKid st I hi hcl hnm (by omega)) (fun _ _ => id) (fun j _ => ⟨rfl, rfl⟩) fr
    have kf1 : bKF S (bsP s (40 * i + p) sk.length 0) (40 * i + p) f f := Or.inr (Or.inr ⟨rfl, i, p, rfl, hi, hcl, Or.inr hno⟩)
    have fx1 : bFix kw mw f0 (dk (bsP s (40 * i + p) sk.length 0)) (dm s) := by
      refine bFix_k fx ?_ ?_ (fun _ _ _ => rfl) (fun _ _ => rfl) (fun _ _ => ⟨rfl, rfl⟩)
      · intro b hb; exact kPush_fix.1 b (by omega)
      · intro b hb; exact kPush_fix.2 b (by omega) (by omega) (by omega) (by omega)
    have h51 : (dk (bsP s (40 * i + p) sk.length 0)).1 5 = hz_n 0 := by
      show (kPush _ _ _).1 5 = _; rw [kPush_fix.1 5 (by decide)]; exact h5
    have cnt1 := bCnt_push (n := sk.length) (a := 0) hi hp hcl h0 (Or.inr hno) cnt
    rcases hat with ⟨o1, t, t1, t2, t3⟩ | ⟨o2, em⟩ | ⟨o3, em⟩ | ⟨o4, em⟩
    · refine ⟨μ, bRun_refl _ _, Or.inl ⟨bsP s (40 * i + p) sk.length 0, (40 * i + p) :: sk, rfl, ⟨I1, K1, fx1, h51, hg, f, f, fr1, kf1, hge, Or.inr (Or.inl ⟨m, 1, Or.inr ⟨i, p, rfl, hi, hcl, Or.inl ⟨o1, rfl, t, t1, t2, Or.inr (Or.inr t3)⟩⟩, hnd, r18, bCnt_ps (Nat.le_refl _) (by omega) cnt1, h21⟩)⟩, ghL_r _⟩⟩
    · subst em
      have b2 := bSh2 sh o2
      have hμ : μ = m_found (dm s) (hz_n 0) (hz_n (s_vl S (dl s i) p)) := by
        unfold m_need at hnd
        rw [zn_ti (by omega), if_neg (by omega), if_pos (by omega), if_neg (by omega), zn_sub] at hnd
        have e : (-1 : Int) - (-1 - (s_vl S (dl s i) p : Int)) = s_vl S (dl s i) p := by omega
        rw [e] at hnd
        exact (Option.some.inj hnd).symm
      subst hμ
      have hsame : bSame (fun _ => False) (bsP s (40 * i + p) sk.length 0) (bsN (bsP s (40 * i + p) sk.length 0) (m_found (dm s) (hz_n 0) (hz_n (s_vl S (dl s i) p)))) := bsN_same ⟨⟨rfl, rfl, rfl, rfl, rfl⟩, fun _ _ _ => rfl⟩
      refine ⟨_, bRun_refl _ _, Or.inl ⟨bsN (bsP s (40 * i + p) sk.length 0) (m_found (dm s) (hz_n 0) (hz_n (s_vl S (dl s i) p))), (40 * i + p) :: sk, rfl, ⟨bInv_same st I1 hsame, bStk_same hsame rfl rfl K1, bFix_found fx1, h51, hg, f, f, bFr_same I1 (bDefs_of st I1) hsame (fun _ _ => id) (fun _ _ => ⟨rfl, rfl⟩) fr1, bKF_same I1 hsame (fun _ _ => rfl) kf1, hge,
        Or.inr (Or.inr (Or.inl ⟨i, p, _, _, rfl, hi, hcl, ⟨rfl, r18, rfl, rfl, rfl⟩, Or.inl ⟨o2, rfl, rfl⟩, bCnt_ps (Nat.le_refl _) (by omega) (bCnt_same hsame cnt1), h21⟩))⟩, ghL_r _⟩⟩
    · subst em
      refine ⟨μ, bRun_refl _ _, Or.inl ⟨bsP s (40 * i + p) sk.length 0, (40 * i + p) :: sk, rfl, ⟨I1, K1, fx1, h51, hg, f, f, fr1, kf1, hge, Or.inr (Or.inl ⟨_, 0, Or.inr ⟨i, p, rfl, hi, hcl, Or.inr ⟨o3, rfl, rfl⟩⟩, hnd, r18, bCnt_ps (Nat.le_refl _) (by omega) cnt1, h21⟩)⟩, ghL_r _⟩⟩
    · subst em
      have hμ : μ = m_found (dm s) (hz_n 1) (hz_n 19) := by
        unfold m_need at hnd
        rw [zn_ti (by omega), if_neg (by omega), if_pos (by omega), if_pos rfl, zn_sub] at hnd
        exact (Option.some.inj hnd).symm
      subst hμ
      have hsame : bSame (fun _ => False) (bsP s (40 * i + p) sk.length 0) (bsN (bsP s (40 * i + p) sk.length 0) (m_found (dm s) (hz_n 1) (hz_n 19))) := bsN_same ⟨⟨rfl, rfl, rfl, rfl, rfl⟩, fun _ _ _ => rfl⟩
      refine ⟨_, bRun_refl _ _, Or.inl ⟨bsN (bsP s (40 * i + p) sk.length 0) (m_found (dm s) (hz_n 1) (hz_n 19)), (40 * i + p) :: sk, rfl, ⟨bInv_same st I1 hsame, bStk_same hsame rfl rfl K1, bFix_found fx1, h51, hg, f, f, bFr_same I1 (bDefs_of st I1) hsame (fun _ _ => id) (fun _ _ => ⟨rfl, rfl⟩) fr1, bKF_same I1 hsame (fun _ _ => rfl) kf1, hge,
        Or.inr (Or.inr (Or.inl ⟨i, p, _, _, rfl, hi, hcl, ⟨rfl, r18, rfl, rfl, rfl⟩, Or.inr ⟨o4, rfl⟩, bCnt_ps (Nat.le_refl _) (by omega) (bCnt_same hsame cnt1), h21⟩))⟩, ghL_r _⟩⟩

-- what is kept is found
theorem bNK_need {E : Nat → Option zT} {dfs : Nat → Option Nat} {ST : Nat → Nat → Int32} {F l0 am : Nat} {S : zG} {s : zD} (st : bSta E dfs ST F S) (I : bInv S dfs ST l0 am s) {m : Int} {k v : Int32} (hm : -55 ≤ m ∧ m < 1000) (H : bNK S dfs s m k v) :
    ∃ v' μ', m_need (dm s) (hz_n m) = some (m_found μ' k v') ∧ (k ≠ hz_n 1 → v' = v) ∧ μ'.1 = (dm s).1 ∧ (∀ b, μ'.2 b = (dm s).2 b) := by
  have h15 : dnp s ≤ 1000 := I.2.1.2.2.2.2.2.2.2.2.2.2.2.1
  unfold m_need
  rcases H with ⟨a1, a2, z, a3, a4, a5, a6⟩ | ⟨a1, a2, a3, a4⟩ | ⟨a1, a2⟩ | ⟨l, a1, a2, a3, a4⟩
  · refine ⟨v, dm s, ?_, fun _ => rfl, rfl, fun _ => rfl⟩
    rw [zn_ti (by omega), if_neg (by omega), if_neg (by omega), zgd_t (by omega), a5, a6, zn_ti (by omega), if_pos (by omega), zn_sub, a4]
    have e : (2 : Int) + (z : Int) - 2 = z := by omega
    rw [e]
  · refine ⟨v, dm s, ?_, fun _ => rfl, rfl, fun _ => rfl⟩
    rw [zn_ti (by omega), if_neg (by omega), if_pos (by omega), if_neg (by omega), zn_sub, a3, a4]
  · refine ⟨hz_n 19, dm s, ?_, fun h => absurd a2 h, rfl, fun _ => rfl⟩
    subst a1
    rw [zn_ti (by omega), if_neg (by omega), if_pos (by omega), if_pos rfl, zn_sub, a2]; rfl
  · subst a2
    have e : hz_n (-30) - hz_n (-30 - (l : Int)) = hz_n l := by rw [zn_sub]; congr 1; omega
    rw [zn_ti (by omega), if_pos (by omega), e]
    unfold m_letter
    have e18 : (dm s).2 18 = ST 18 := I.1.1 18 (by decide) (by decide)
    have e19 : (dm s).2 19 = ST 19 := I.1.1 19 (by decide) (by decide)
    rw [zt l (by omega), zgd_t (by omega), Int.toNat_natCast, e18, e19]
    rcases st l a1 with ⟨h, _⟩ | ⟨d, T, h1, h2, h3, D⟩
    · exact absurd h a3
    · have hpc := D.2.2.1
      rw [h3, zn_ti (by omega), if_neg (by omega), D.2.2.2.2.2.1, zt _ (by omega)]
      rcases a4 with ⟨b1, b2, b3⟩ | ⟨b1, q, z, b2, b3, b4, b5, b6, b7⟩
      · refine ⟨v, dm s, ?_, fun _ => rfl, rfl, fun _ => rfl⟩
        rw [if_pos (by omega), zn_sub, b2, b3]
      · refine ⟨v, mA (dm s) 32 l (hz_n q), ?_, fun _ => rfl, rfl, ?_⟩
        · rw [if_neg (by omega)]
          unfold m_body
          rw [zt l (by omega), zgd_t (by omega), Int.toNat_natCast, b2, zt q (by omega), if_neg (by omega)]
          unfold m_body2
          have e28 : (mA (dm s) 32 l (hz_n q)).2 28 q = hz_n (2 + (z : Int)) := by rw [mA2n _ _ _ _ _ (by decide)]; exact b6
          have e31 : (mA (dm s) 32 l (hz_n q)).2 31 q = v := by rw [mA2n _ _ _ _ _ (by decide)]; exact b7
          rw [zt q (by omega), zgd_t (by omega), Int.toNat_natCast, e28, e31, zn_ti (by omega), if_pos (by omega), zn_sub, b5]
          have e : (2 : Int) + (z : Int) - 2 = z := by omega
          rw [e]
        · intro b
          by_cases hb : b = 32
          · subst hb
            funext x
            rw [mA2, if_pos rfl]
            split
            · rename_i hx; rw [hx, b2]
            · rfl
          · rw [mA2n _ _ _ _ _ hb]
theorem bSucc {S : zG} {l0 f0 : Nat} {s : zD} : ∀ {r : List Nat} {c f : Nat}, bFr S l0 f0 s r c f → ∀ x, x ∈ r → ∃ d f2 f', d ∈ c :: r ∧ bWt S l0 s x d f2 f'
  | [], _, _, _, x, hx => absurd hx (by simp)
  | y :: r, c, f, H, x, hx => by
    obtain ⟨f1, f2, h1, h2, h3⟩ := H
    rcases List.mem_cons.mp hx with hx | hx
    · subst hx; exact ⟨c, f2, f, List.mem_cons_self .., h3⟩
    · obtain ⟨d, g1, g2, e1, e2⟩ := bSucc h1 x hx
      exact ⟨d, g1, g2, List.mem_cons_of_mem _ e1, e2⟩
def bLp (s : zD) (m : Int) (z : Int) : Prop := ∃ μ', m_need (dm s) (hz_n m) = some μ' ∧ μ'.1 = (mS (dm s) 21 (hz_n z)).1 ∧ ∀ b, b ≠ 32 → μ'.2 b = (dm s).2 b
theorem bLoop_l {E : Nat → Option zT} {dfs : Nat → Option Nat} {ST : Nat → Nat → Int32} {F l0 am : Nat} {S : zG} {s : zD} (st : bSta E dfs ST F S) (I : bInv S dfs ST l0 am s) {l d : Nat} (hl : l < 26) (hc : (dk s).2.1 5 l = hz_n d) (hd : d < 2000) (h1 : ks s d = hz_n 1) : bLp s (-30 - (l : Int)) (-4) := by
  have hnp : dnp s ≤ 1000 := I.2.1.2.2.2.2.2.2.2.2.2.2.2.1
  have hle := b_le I
  rcases I.2.2.2.1 l hl with h | ⟨a0, i, q, a1, a2, a3, a4, a5, a6, a7, a8⟩
  · rw [h.1] at hc; exact absurd hc.symm (zn_ne hd)
  · rw [a5] at hc
    have e := zn_inj (by omega) (by omega) hc
    have e' : d = 40 * i + 1 := by omega
    subst e'
    obtain ⟨T, DT⟩ := bDefs_of st I i a1
    have hcl : s_cl S (dl s i) 1 = 1 := by have := DT.2.2.2.2.2.2.2.1; rw [a2, a3] at this; rw [a2]; exact this
    have hq1 : (dm s).2 28 q = hz_n 1 := by
      rcases ((I.2.2.2.2.2.2.2 i 1 a1 hcl).2.1 _ a6).1 with ⟨_, q', e, _, _, _, _, _, _, m3⟩ | ⟨m1, _, _⟩
      · have : q' = q := by omega
        subst this; exact m3 h1
      · have := DT.2.2.2.2.2.2.2.2.1; rw [a2, a3, Nat.zero_add] at this; rw [a2] at m1; omega
    unfold bLp m_need
    have e : hz_n (-30) - hz_n (-30 - (l : Int)) = hz_n l := by rw [zn_sub]; congr 1; omega
    rw [zn_ti (by omega), if_pos (by omega), e]
    unfold m_letter
    have e18 : (dm s).2 18 = ST 18 := I.1.1 18 (by decide) (by decide)
    have e19 : (dm s).2 19 = ST 19 := I.1.1 19 (by decide) (by decide)
    rw [zt l (by omega), zgd_t (by omega), Int.toNat_natCast, e18, e19]
    rcases st l hl with ⟨h, _⟩ | ⟨d, T, h1, h2, h3, D⟩
    · exact absurd h a0
    · rw [h3, zn_ti (by omega), if_neg (by omega), D.2.2.2.2.2.1, a3, zn_ti (by omega), if_neg (by omega)]
      unfold m_body
      rw [zt l (by omega), zgd_t (by omega), Int.toNat_natCast, a7, zt q (by omega), if_neg (by omega)]
      unfold m_body2
      have e28 : (mA (dm s) 32 l (hz_n q)).2 28 q = hz_n 1 := by rw [mA2n _ _ _ _ _ (by decide)]; exact hq1
      rw [zt q (by omega), zgd_t (by omega), Int.toNat_natCast, e28, zn_ti (by omega), if_neg (by omega), if_pos rfl]
      exact ⟨_, rfl, rfl, fun b hb => by rw [mS2, mA2n _ _ _ _ _ hb]⟩
theorem bLoop {E : Nat → Option zT} {dfs : Nat → Option Nat} {ST : Nat → Nat → Int32} {F l0 am f0 : Nat} {S : zG} {s : zD} {c f1 : Nat} {r : List Nat} (st : bSta E dfs ST F S) (I : bInv S dfs ST l0 am s) (K : bStk S s (c :: r)) (fr : bFr S l0 f0 s r c f1) {m : Int} :
    ∀ (n : Nat) {i p : Nat}, dw s (40 * i + p) < n → i < de s → s_cl S (dl s i) p = 1 → dg s (40 * i + p) = some m → ks s (40 * i + p) = hz_n 1 →
      (dg s c = none ∨ (∀ i' p', c = 40 * i' + p' → i' < de s → s_cl S (dl s i') p' = 1 → bOwn S (dl s i') p') ∨ dw s (40 * i + p) < dw s c) → bLp s m (-4)
  | 0, _, _, h, _, _, _, _, _ => by omega
  | n + 1, i, p, h, hi, hcl, hgm, hk, hne => by
    have hnp : dnp s ≤ 1000 := I.2.1.2.2.2.2.2.2.2.2.2.2.2.1
    obtain ⟨T, DT⟩ := bDefs_of st I i hi
    obtain ⟨sh, hp, hi50, h6⟩ := zsg st I hi hcl
    rcases ((I.2.2.2.2.2.2.2 i p hi hcl).2.1 m hgm).1 with ⟨ho, q, e1, m1, m2, m3, m4, m5, m6, m7⟩ | ⟨hr, ho, hat⟩
    · subst e1
      unfold bLp m_need
      rw [zt q (by omega), if_neg (by omega), if_neg (by omega), zgd_t (by omega), Int.toNat_natCast, m7 hk, zn_ti (by omega), if_neg (by omega), if_pos rfl]
      exact ⟨_, rfl, rfl, fun b hb => rfl⟩
    · have hno : ¬ bOwn S (dl s i) p := by intro h; rcases h with h | h | h <;> omega
      have hnc : 40 * i + p ≠ c := by
        intro e
        rcases hne with h1 | h1 | h1
        · rw [← e, hgm] at h1; exact absurd h1 (by simp)
        · exact hno (h1 i p e.symm hi hcl)
        · rw [e] at h1; omega
      have hmem : 40 * i + p ∈ r := by
        rcases List.mem_cons.mp (K.2.2.2.2 i p hi hcl hk) with h | h
        · exact absurd h hnc
        · exact h
      obtain ⟨d, f2, f', hd, wt⟩ := bSucc fr _ hmem
      have hkd := (K.2.2.2.1 d hd).1
      rcases wt with ⟨e, _⟩ | ⟨i', p', e, hi', hc', wt⟩
      · omega
      · obtain ⟨T', DT'⟩ := bDefs_of st I i' hi'
        have := bKid_lt DT' hc'
        have y1 : i' = i := by omega
        have y2 : p' = p := by omega
        subst y1; subst y2
        rcases hat with ⟨o1, t, t1, t2, t3⟩ | ⟨o2, em⟩ | ⟨o3, em⟩ | ⟨o4, em⟩
        · rcases wt with ⟨_, b2, _, _⟩ | ⟨b1, _⟩ | ⟨b1, _⟩ | ⟨b1, _⟩ | ⟨b1, _⟩ | ⟨b1, _⟩ | ⟨b1, _⟩
          · rw [t1] at b2
            have := Option.some.inj b2
            subst this
            obtain ⟨_, _, it, pt, et, hit, hct⟩ := I.2.2.2.2.1 t m t2
            subst et
            exact bLoop st I K fr n (by omega) hit hct t2 hkd (by
              rcases hne with h | h | h
              · exact Or.inl h
              · exact Or.inr (Or.inl h)
              · exact Or.inr (Or.inr (by omega)))
          all_goals omega
        · rcases wt with ⟨b1, _⟩ | ⟨b1, _⟩ | ⟨b1, _⟩ | ⟨b1, _⟩ | ⟨b1, _⟩ | ⟨b1, _⟩ | ⟨b1, _⟩ <;> omega
        · rcases wt with ⟨b1, _⟩ | ⟨_, b2, b3, _⟩ | ⟨b1, _⟩ | ⟨b1, _⟩ | ⟨b1, _⟩ | ⟨b1, _⟩ | ⟨b1, _⟩
          · omega
          · subst em
            exact bLoop_l st I (bSh3 sh o3).2 b2 b3 hkd
          all_goals omega
        · rcases wt with ⟨b1, _⟩ | ⟨b1, _⟩ | ⟨b1, _⟩ | ⟨b1, _⟩ | ⟨b1, _⟩ | ⟨b1, _⟩ | ⟨b1, _⟩ <;> omega

-- a kept value comes to the reference's registers
theorem bFound {E : Nat → Option zT} {dfs : Nat → Option Nat} {ST : Nat → Nat → Int32} {F l0 am f0 g wn wr : Nat} {S : zG} {kw : zK} {mw : zM} {s : zD} {c : Nat} {r : List Nat} {f1 f2 : Nat} {x w k v v' : Int32} {μ' : zM}
    (st : bSta E dfs ST F S) (I : bInv S dfs ST l0 am s) (K : bStk S s (c :: r)) (fx : bFix kw mw f0 (dk s) (dm s)) (h5 : (dk s).1 5 = hz_n 0) (hg : (c :: r).getLast? = some g) (fr : bFr S l0 f0 s r c f1) (kf : bKF S s c f1 f2) (hf2 : f2 ≤ 2150)
    (r18 : (dm s).1 18 = hz_n f2) (h21 : (dm s).1 21 = hz_n 0) (vr : bVR S dfs s x w k v) (hk1 : k ≠ hz_n 1 → v' = v) (hμ1 : μ'.1 = (dm s).1) (hμ2 : ∀ b, μ'.2 b = (dm s).2 b)
    (hnk : ∀ m i p, c = 40 * i + p → i < de s → s_cl S (dl s i) p = 1 → ¬ bOwn S (dl s i) p → dg s c = some m → ∃ k' v', bNK S dfs s m k' v' ∧ bVR S dfs s x w k' v') (cnt : bCnt S s wn wr 0 0 0 0) :
    bOutc S dfs ST F l0 am f0 g wn wr kw mw (ghs s) (kKeep (dk s) c r.length x w) (m_found μ' k v') := by
  have hμ : μ' = dm s := Prod.ext hμ1 (funext hμ2)
  subst hμ
  have hsame : bSame (fun _ => False) s (bsN s (m_found (dm s) k v')) := bsN_same ⟨⟨rfl, rfl, rfl, rfl, rfl⟩, fun _ _ _ => rfl⟩
  have u := bUp_same (S := S) (dfs := dfs) hsame I.2.2.2.2.2.2.1
  have vr' : bVR S dfs s x w k v' := by
    by_cases e : k = hz_n 1
    · rcases vr with h | h | h | h
      · rw [h.2.1] at e; exact absurd e (by decide)
      · exact Or.inr (Or.inl h)
      · rw [h.2.1] at e; exact absurd e (by decide)
      · rw [h.2.1] at e; exact absurd e (by decide)
    · rw [hk1 e]; exact vr
  refine bRet (s := bsN s (m_found (dm s) k v')) (k := k) (v := v') st (bInv_same st I hsame) (bStk_same hsame rfl rfl K) (bFix_found fx) h5 hg (bFr_same I (bDefs_of st I) hsame (fun _ _ => id) (fun _ _ => ⟨rfl, rfl⟩) fr) (bKF_same I hsame (fun _ _ => rfl) kf) hf2 ⟨rfl, r18, rfl, rfl, rfl⟩ h21 (bVR_mono u.1 vr') ?_ (bCnt_ps (Nat.zero_le _) (Nat.le_refl _) (bCnt_same hsame cnt))
  intro m i p e1 e2 e3 e4 e5
  obtain ⟨k', v'', n1, n2⟩ := hnk m i p e1 e2 e3 e4 e5
  exact ⟨k', v'', bNK_same hsame n1, bVR_mono u.1 n2⟩
-- the run ends on both sides
theorem bEnds {dfs : Nat → Option Nat} {ST : Nat → Nat → Int32} {F l0 am f0 g wn wr : Nat} {S : zG} {kw : zK} {mw : zM} {s : zD} {κ : zK} {μ μ' : zM} {z : Int} (I : bInv S dfs ST l0 am s) (fx : bFix kw mw f0 (dk s) (dm s)) (hz : -5 ≤ z ∧ z < 0) (run : bRun F μ μ')
    (h1 : κ.1 5 = hz_n z) (h2 : ∀ b, b ≠ 5 → κ.1 b = (dk s).1 b) (h3 : ∀ b, b = 1 ∨ b = 13 ∨ b = 14 → κ.2.1 b = (dk s).2.1 b)
    (h4 : μ'.1 21 = hz_n z) (h5 : ∀ b, 10 ≤ b → b ≤ 12 → μ'.1 b = (dm s).1 b) (h6 : μ'.1 20 = (dm s).1 20) (h7 : ∀ b, 16 ≤ b ∧ b ≤ 23 → μ'.2 b = (dm s).2 b) (h8 : ∀ j, j < f0 → μ'.2 37 j = (dm s).2 37 j ∧ μ'.2 38 j = (dm s).2 38 j) (h9 : κ.2.2 3 = (dk s).2.2 3 := by rfl) :
    bOutc S dfs ST F l0 am f0 g wn wr kw mw (ghs s) κ μ := by
  refine ⟨μ', run, Or.inr ⟨z, hz.1, hz.2, h1, h4, ⟨de s, b_le I, ?_, ?_⟩, bFix_k fx ?_ h3 h5 h7 h8 h9⟩⟩
  · rw [h2 4 (by decide)]; exact I.2.1.1
  · rw [h6]; exact I.2.1.2.1
  · intro b hb; exact h2 b (by omega)
theorem bEndL {dfs : Nat → Option Nat} {ST : Nat → Nat → Int32} {F l0 am f0 g wn wr : Nat} {S : zG} {kw : zK} {mw : zM} {s : zD} {μ : zM} {m z : Int} (I : bInv S dfs ST l0 am s) (fx : bFix kw mw f0 (dk s) (dm s)) (hz : -5 ≤ z ∧ z < 0) (h : bLp s m z) (hnd : m_need (dm s) (hz_n m) = some μ) :
    bOutc S dfs ST F l0 am f0 g wn wr kw mw (ghs s) (kS (dk s) 5 (hz_n z)) μ := by
  obtain ⟨μ', e1, e2, e3⟩ := h
  rw [hnd] at e1
  have := Option.some.inj e1
  subst this
  refine bEnds (κ := kS (dk s) 5 (hz_n z)) (μ' := μ) I fx hz (bRun_refl _ _) rfl ?_ (fun _ _ => rfl) ?_ ?_ ?_ ?_ ?_
  · intro b hb; rw [kS1, if_neg hb]
  · rw [e2]; rfl
  · intro b b1 b2; rw [e2, mS1, if_neg (by omega)]
  · rw [e2, mS1, if_neg (by decide)]
  · intro b hb; rw [e3 b (by omega)]
  · intro j _; rw [e3 37 (by decide), e3 38 (by decide)]; exact ⟨rfl, rfl⟩
-- a variable
theorem bSt_1 {E : Nat → Option zT} {dfs : Nat → Option Nat} {ST : Nat → Nat → Int32} {F l0 am f0 g wn wr : Nat} {S : zG} {kw : zK} {mw : zM} {s : zD} {μ : zM} {r : List Nat} {f1 f2 i p t : Nat} {m : Int}
    (hF : 951 ≤ F) (st : bSta E dfs ST F S) (I : bInv S dfs ST l0 am s) (K : bStk S s ((40 * i + p) :: r)) (fx : bFix kw mw f0 (dk s) (dm s)) (h5 : (dk s).1 5 = hz_n 0) (hg : ((40 * i + p) :: r).getLast? = some g) (fr : bFr S l0 f0 s r (40 * i + p) f1) (kf : bKF S s (40 * i + p) f1 f2) (hf2 : f2 + 1 < 2150) (hn : dnp s < 1000)
    (hi : i < de s) (hcl : s_cl S (dl s i) p = 1) (o1 : s_op S (dl s i) p = 1) (ht : dd s (40 * i + s_bi S (dl s i) p) = some t) (hgt : dg s t = some m) (hw : dg s (40 * i + p) = none ∨ bOwn S (dl s i) p ∨ dw s t < dw s (40 * i + p))
    (hnd : m_need (dm s) (hz_n m) = some μ) (r18 : (dm s).1 18 = hz_n f2) (cnt : bCnt S s wn wr 1 0 0 0) (h21 : (dm s).1 21 = hz_n 0) :
    ∃ κ', g_lookAt (dk s) E (hz_n (40 * i + p : Nat)) = some κ' ∧ bOutc S dfs ST F l0 am f0 g wn wr kw mw (ghs s) κ' μ := by
  obtain ⟨sh, hp, hi50, h6⟩ := zsg st I hi hcl
  obtain ⟨kt, ht2, _⟩ := I.2.2.2.2.2.1 _ _ ht
  obtain ⟨hm1, hm2, it, pt, et, hit, hct⟩ := I.2.2.2.2.1 t m hgt
  subst et
  have ht6 := (zsg st I hit hct).2.2.2
  rw [g_la1 st I hi hcl o1, kt]
  obtain ⟨M1, M2⟩ := (I.2.2.2.2.2.2.2 it pt hit hct).2.1 m hgt
  rcases M2 with h0 | h1 | ⟨k, v, nk, vr⟩
  · have hl := bStk_len st I K (by omega) h0
    refine ⟨_, g_kA0 (by omega) h0 K.1 hl, ?_⟩
    refine bGo (sk := (40 * i + p) :: r) (f := f2) hF st I K fx h5 (by rw [List.getLast?_cons_cons]; exact hg) ⟨f1, f2, fr, kf, Or.inr ⟨i, p, rfl, hi, hcl, Or.inl ⟨o1, ht, by rw [hgt]; simp, rfl⟩⟩⟩ hf2 hn h21 hit hct h0 hgt r18 hnd cnt
  · refine ⟨_, g_kA1 (by omega) h1, ?_⟩
    refine bEndL I fx (by omega) (bLoop st I K fr (dw s (40 * it + pt) + 1) (Nat.lt_succ_self _) hit hct hgt h1 ?_) hnd
    rcases hw with h | h | h
    · exact Or.inl h
    · refine Or.inr (Or.inl fun i' p' e hi' hc' => ?_)
      have := (zsg st I hi' hc').2.1
      have y1 : i' = i := by omega
      have y2 : p' = p := by omega
      subst y1; subst y2; exact h
    · exact Or.inr (Or.inr h)
  · have hx := zvr vr
    refine ⟨_, g_kAk (by omega) (by omega) hx.1 hx.2 K.1, ?_⟩
    obtain ⟨v', μ', e1, e2, e3, e4⟩ := bNK_need st I ⟨hm1, hm2⟩ nk
    rw [hnd] at e1
    have := Option.some.inj e1
    subst this
    refine bFound st I K fx h5 hg fr kf (by omega) r18 h21 vr e2 e3 e4 ?_ (bCnt_ps (Nat.le_refl _) (by omega) cnt)
    intro m' i' p' a1 a2 a3 a4 a5
    have := (zsg st I a2 a3).2.1
    have y1 : i' = i := by omega
    have y2 : p' = p := by omega
    subst y1; subst y2
    rcases ((I.2.2.2.2.2.2.2 i' p' hi hcl).2.1 m' a5).1 with ⟨ho, _⟩ | ⟨_, _, ho⟩
    · exact absurd ho a4
    · rcases ho with ⟨_, t', b1, b2, b3⟩ | ⟨ho, _⟩ | ⟨ho, _⟩ | ⟨ho, _⟩
      · rw [ht] at b1
        have := Option.some.inj b1
        subst this
        rw [hgt] at b2
        have := Option.some.inj b2
        subst this
        exact ⟨k, v, nk, vr⟩
      · omega
      · omega
      · omega
