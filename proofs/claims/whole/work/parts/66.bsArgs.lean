-- a function's promises as a list of cells
def bCB (s : zD) (l j h : Nat) (w : Int32) (B : Nat → Nat) : Prop :=
  (∀ k, k < h → B k < 2000 ∧ ∃ a, dg s (B k) = some a ∧ (dm s).2 33 (j + 2 + k) = hz_n a) ∧ (0 < h → w = hz_n (B (h - 1))) ∧ (h = 0 → w = hz_n (-1 - (l : Int)))
  ∧ (∀ k, k + 1 < h → (dk s).2.1 8 (B (k + 1)) = hz_n (B k)) ∧ (0 < h → (dk s).2.1 8 (B 0) = hz_n (-1 - (l : Int)))
theorem bCB_of {s : zD} {l j : Nat} : ∀ {h : Nat} {w : Int32}, bChn s l j h w → ∃ B, bCB s l j h w B
  | 0, w, H => ⟨fun _ => 0, fun k hk => by omega, fun h => by omega, fun _ => H, fun k hk => by omega, fun h => by omega⟩
  | h + 1, w, H => by
    obtain ⟨c, a, h1, h2, h3, h4, h5⟩ := H
    obtain ⟨B, b1, b2, b3, b4, b5⟩ := bCB_of h5
    refine ⟨fun k => if k = h then c else B k, fun k hk => ?_, fun _ => ?_, fun e => by omega, fun k hk => ?_, fun _ => ?_⟩
    · by_cases e : k = h
      · subst e; simp only [if_true]; exact ⟨h2, a, h3, h4⟩
      · simp only [if_neg e]; exact b1 k (by omega)
    · have : h + 1 - 1 = h := by omega
      rw [this]; simp only [if_true]; exact h1
    · by_cases e : k + 1 = h
      · simp only [if_pos e, if_neg (show ¬ k = h by omega)]
        have := b2 (by omega)
        have e2 : h - 1 = k := by omega
        rw [e2] at this; exact this
      · simp only [if_neg e, if_neg (show ¬ k = h by omega)]; exact b4 k (by omega)
    · by_cases e : h = 0
      · subst e; simp only [if_true]; exact b3 rfl
      · simp only [if_neg (show ¬ 0 = h by omega)]; exact b5 (by omega)
theorem bCB_to {s : zD} {l j : Nat} {B : Nat → Nat} : ∀ {h : Nat} {w : Int32}, bCB s l j h w B → bChn s l j h w
  | 0, w, H => H.2.2.1 rfl
  | h + 1, w, H => by
    obtain ⟨b1, b2, b3, b4, b5⟩ := H
    obtain ⟨c1, a, c2, c3⟩ := b1 h (by omega)
    refine ⟨B h, a, ?_, c1, c2, c3, bCB_to (B := B) ⟨fun k hk => b1 k (by omega), fun hp => ?_, fun e => ?_, fun k hk => b4 k (by omega), fun hp => b5 (by omega)⟩⟩
    · have := b2 (by omega)
      have e : h + 1 - 1 = h := by omega
      rw [e] at this; exact this
    · have := b4 (h - 1) (by omega)
      have e : h - 1 + 1 = h := by omega
      rw [e] at this; exact this
    · subst e; exact b5 (by omega)
theorem g_loT {s : zD} {l h : Nat} {B : Nat → Nat} {κ : zK} (hl : l < 26) (h8 : ∀ k, k < h → κ.2.1 8 (B k) = (dk s).2.1 8 (B k)) : ∀ (n : Nat) {w : Int32} (c f : Nat), n ≤ h → (∀ k, k < n → B k < 2000) → (0 < n → w = hz_n (B (n - 1))) → (n = 0 → w = hz_n (-1 - (l : Int))) →
    (∀ k, k + 1 < n → (dk s).2.1 8 (B (k + 1)) = hz_n (B k)) → (0 < n → (dk s).2.1 8 (B 0) = hz_n (-1 - (l : Int))) → c + n ≤ 4 → n < f → g_lo κ f w (hz_n c) = some (hz_n l)
  | 0, w, c, f + 1, _, _, _, h3, _, _, _, _ => by
    rw [g_lo, h3 rfl, zn_ti (by omega), if_pos (by omega), zn_sub]; congr 2; omega
  | n, w, c, 0, _, _, _, _, _, _, _, hf => by omega
  | n + 1, w, c, f + 1, hn, h1, h2, h3, h4, h5, hc, hf => by
    have hw := h2 (by omega)
    have e : n + 1 - 1 = n := by omega
    rw [e] at hw
    have hB := h1 n (by omega)
    rw [g_lo, hw, zt (B n) (by omega), if_neg (by omega), zt c (by omega), if_neg (by omega), zgd_t (by omega), Int.toNat_natCast, zn1, h8 n (by omega)]
    refine g_loT hl h8 n (c + 1) f (by omega) (fun k hk => h1 k (by omega)) (fun hp => ?_) (fun e0 => ?_) (fun k hk => h4 k (by omega)) (fun _ => h5 (by omega)) (by omega) (by omega)
    · have := h4 (n - 1) (by omega)
      have e2 : n - 1 + 1 = n := by omega
      rw [e2] at this; exact this
    · subst e0; exact h5 (by omega)
theorem g_pcT {s : zD} {l h : Nat} {B : Nat → Nat} {κ : zK} (hl : l < 26) (h8 : ∀ k, k < h → κ.2.1 8 (B k) = (dk s).2.1 8 (B k)) : ∀ (n : Nat) {w : Int32} (c f : Nat), n ≤ h → (∀ k, k < n → B k < 2000) → (0 < n → w = hz_n (B (n - 1))) → (n = 0 → w = hz_n (-1 - (l : Int))) →
    (∀ k, k + 1 < n → (dk s).2.1 8 (B (k + 1)) = hz_n (B k)) → (0 < n → (dk s).2.1 8 (B 0) = hz_n (-1 - (l : Int))) → c + n ≤ 4 → n < f → g_pc κ f (hz_n c) w = some (hz_n (c + n : Nat))
  | 0, w, c, f + 1, _, _, _, h3, _, _, _, _ => by
    rw [g_pc, h3 rfl, zn_ti (by omega), if_pos (by omega)]; rfl
  | n, w, c, 0, _, _, _, _, _, _, _, hf => by omega
  | n + 1, w, c, f + 1, hn, h1, h2, h3, h4, h5, hc, hf => by
    have hw := h2 (by omega)
    have e : n + 1 - 1 = n := by omega
    rw [e] at hw
    have hB := h1 n (by omega)
    rw [g_pc, hw, zt (B n) (by omega), if_neg (by omega), zt c (by omega), if_neg (by omega), zgd_t (by omega), Int.toNat_natCast, zn1, h8 n (by omega)]
    have e3 : c + (n + 1) = c + 1 + n := by omega
    rw [e3]
    refine g_pcT hl h8 n (c + 1) f (by omega) (fun k hk => h1 k (by omega)) (fun hp => ?_) (fun e0 => ?_) (fun k hk => h4 k (by omega)) (fun _ => h5 (by omega)) (by omega) (by omega)
    · have := h4 (n - 1) (by omega)
      have e2 : n - 1 + 1 = n := by omega
      rw [e2] at this; exact this
    · subst e0; exact h5 (by omega)
-- the class takes arguments
def kT (κ : zK) (c : Nat) (w : Int32) (A : Nat → Nat) : Nat → zK
  | 0 => κ
  | t + 1 => kA (kA (kT κ c w A t) 8 (A (t + 1)) (if t = 0 then w else hz_n (A t))) 10 c (hz_n (A (t + 1)))
theorem kT_s {κ : zK} {c : Nat} {w : Int32} {A : Nat → Nat} : ∀ t, (kT κ c w A t).1 = κ.1 ∧ (kT κ c w A t).2.2 = κ.2.2 ∧ (∀ b, b ≠ 8 → b ≠ 10 → (kT κ c w A t).2.1 b = κ.2.1 b)
  | 0 => ⟨rfl, rfl, fun _ _ _ => rfl⟩
  | t + 1 => by
    obtain ⟨h1, h2, h3⟩ := kT_s (κ := κ) (c := c) (w := w) (A := A) t
    exact ⟨h1, h2, fun b b8 b10 => by show (kA (kA _ 8 _ _) 10 _ _).2.1 b = _; rw [kA2n _ _ _ _ _ b10, kA2n _ _ _ _ _ b8]; exact h3 b b8 b10⟩
theorem g_ta1T {E : Nat → Option zT} {dfs : Nat → Option Nat} {ST : Nat → Nat → Int32} {F l0 am : Nat} {S : zG} {s : zD} (st : bSta E dfs ST F S) (I : bInv S dfs ST l0 am s) {i p u : Nat} {b w : Int32} {κ : zK} (hκ : κ.2.2 4 = (dk s).2.2 4) (hi : i < de s) (hcl : s_cl S (dl s i) p = 1) (o : s_op S (dl s i) p = 6) :
    ∀ (n t f m : Nat), t + n = s_mo S (dl s i) p - u ∨ (t + n ≤ s_mo S (dl s i) p - u ∧ m = n) → u + t ≤ s_mo S (dl s i) p → n ≤ m → n < f → m ≤ 4 →
      g_ta1 E (hz_n (40 * i + p : Nat)) b f (kT κ (40 * i + p) w (fun j => 40 * i + s_arg S (dl s i) p (u + j)) t) (hz_n m) (if t = 0 then w else hz_n (40 * i + s_arg S (dl s i) p (u + t) : Nat)) (if u + t < s_mo S (dl s i) p then hz_n (40 * i + s_arg S (dl s i) p (u + t + 1) : Nat) else hz_n (-1))
      = g_ta2 E (kT κ (40 * i + p) w (fun j => 40 * i + s_arg S (dl s i) p (u + j)) (t + n)) (hz_n (40 * i + p : Nat)) b (hz_n (m - n : Nat)) (if t + n = 0 then w else hz_n (40 * i + s_arg S (dl s i) p (u + (t + n)) : Nat)) := by
  obtain ⟨sh, hp, hi50, h6⟩ := zsg st I hi hcl
  obtain ⟨_, k0, _, mo1, mo4, args, nx0⟩ := bSh6 sh o
  intro n
  induction n with
  | zero =>
    intro t f m h1 h2 h3 h4 h5
    obtain ⟨f, rfl⟩ : ∃ f', f = f' + 1 := ⟨f - 1, by omega⟩
    rw [g_ta1, zt m (by omega)]
    by_cases hm : m = 0
    · rw [if_pos (by omega)]; subst hm; rfl
    · rw [if_neg (by omega), if_neg (show ¬ u + t < s_mo S (dl s i) p by omega), zn_ti (by omega), if_pos rfl]; rfl
  | succ n ih =>
    intro t f m h1 h2 h3 h4 h5
    obtain ⟨f, rfl⟩ : ∃ f', f = f' + 1 := ⟨f - 1, by omega⟩
    have hlt : u + t < s_mo S (dl s i) p := by omega
    have k := (args (u + t) hlt).1
    have q := (zsg st I hi k.1).2.2.2
    rw [g_ta1, zt m (by omega), if_neg (by omega), if_pos hlt, zt _ (by omega), if_neg (by omega), zgd_t (by omega), zt (40 * i + p) (by omega), zgd_t (by omega), Int.toNat_natCast, Int.toNat_natCast]
    have ekT : kA (kA (kT κ (40 * i + p) w (fun j => 40 * i + s_arg S (dl s i) p (u + j)) t) 8 (40 * i + s_arg S (dl s i) p (u + t + 1)) (if t = 0 then w else hz_n (40 * i + s_arg S (dl s i) p (u + t) : Nat))) 10 (40 * i + p) (hz_n (40 * i + s_arg S (dl s i) p (u + t + 1) : Nat)) = kT κ (40 * i + p) w (fun j => 40 * i + s_arg S (dl s i) p (u + j)) (t + 1) := rfl
    rw [ekT, g_next st I (κ := kT κ (40 * i + p) w (fun j => 40 * i + s_arg S (dl s i) p (u + j)) (t + 1)) (by rw [(kT_s (t + 1)).2.1]; exact hκ) hi k.1, Option.bind_some]
    have em : hz_n (m : Int) + hz_n (-1) = hz_n ((m - 1 : Nat) : Int) := by rw [zn_add]; congr 1; omega
    have enx : (if s_nx S (dl s i) (s_arg S (dl s i) p (u + t + 1)) = 0 then hz_n (-1) else hz_n (40 * i + s_nx S (dl s i) (s_arg S (dl s i) p (u + t + 1)) : Nat)) = (if u + (t + 1) < s_mo S (dl s i) p then hz_n (40 * i + s_arg S (dl s i) p (u + (t + 1) + 1) : Nat) else hz_n (-1)) := by
      by_cases hl2 : u + (t + 1) < s_mo S (dl s i) p
      · have := (args (u + (t + 1)) hl2).2.1
        have e1 : s_arg S (dl s i) p (u + (t + 1) + 1) = s_nx S (dl s i) (s_arg S (dl s i) p (u + t + 1)) := rfl
        rw [if_pos hl2, ← e1, if_neg (by omega)]
      · have e1 : u + t + 1 = s_mo S (dl s i) p := by omega
        rw [if_neg hl2, e1, nx0, if_pos rfl]
    rw [em, enx]
    have := ih (t + 1) f (m - 1) (by omega) (by omega) (by omega) (by omega) (by omega)
    rw [if_neg (show ¬ t + 1 = 0 by omega)] at this
    have e3 : u + (t + 1) = u + t + 1 := by omega
    have e4 : t + 1 + n = t + (n + 1) := by omega
    have e5 : m - 1 - n = m - (n + 1) := by omega
    rw [e4, e5] at this
    exact this

-- one argument is taken: the class notes it, the reference makes its promise
theorem bTake1 {E : Nat → Option zT} {dfs : Nat → Option Nat} {ST : Nat → Nat → Int32} {F l0 am f0 wn wr cr ps ob oe : Nat} {S : zG} {s : zD} {μ : zM} {r : List Nat} {f1 f2 i p j : Nat} {x : Int32} {a : Int}
    (hF : 951 ≤ F) (st : bSta E dfs ST F S) (I : bInv S dfs ST l0 am s) (K : bStk S s ((40 * i + p) :: r)) (fr : bFr S l0 f0 s r (40 * i + p) f1) (kf : bKF S s (40 * i + p) f1 f2) (hn : dnp s < 1000) (ag : bAg s μ)
    (hi : i < de s) (hcl : s_cl S (dl s i) p = 1) (o : s_op S (dl s i) p = 6) (hj : j < s_mo S (dl s i) p) (hgn : dg s (40 * i + s_arg S (dl s i) p (j + 1)) = none) (env : bEnv S s i (dl s i) p a) (cnt : bCnt S s wn wr cr ps ob oe) :
    ∃ (m : Int) (μ' : zM) (s' : zD), m_promise μ F (hz_n (40 * dl s i + s_nd S (dl s i) (s_arg S (dl s i) p (j + 1)) : Nat)) (hz_n a) = some (hz_n m, μ') ∧ -55 ≤ m ∧ m < 1000 ∧ bInv S dfs ST l0 am s' ∧ bAg s' μ' ∧ bRest μ μ'
      ∧ dk s' = kA (kA (dk s) 8 (40 * i + s_arg S (dl s i) p (j + 1)) x) 10 (40 * i + p) (hz_n (40 * i + s_arg S (dl s i) p (j + 1) : Nat))
      ∧ dg s' (40 * i + s_arg S (dl s i) p (j + 1)) = some m ∧ (∀ y, y ≠ 40 * i + s_arg S (dl s i) p (j + 1) → dg s' y = dg s y) ∧ bGrow s s'
      ∧ (dl s' = dl s ∧ dd s' = dd s ∧ de s' = de s ∧ dnc s' = dnc s ∧ dnb s' = dnb s ∧ dnp s' ≤ dnp s + 1) ∧ (da s' (40 * i + p) = da s (40 * i + p))
      ∧ bStk S s' ((40 * i + p) :: r) ∧ bFr S l0 f0 s' r (40 * i + p) f1 ∧ bKF S s' (40 * i + p) f1 f2 ∧ bCnt S s' wn wr cr ps ob oe ∧ (dm s').2 37 = (dm s).2 37 ∧ (dm s').2 38 = (dm s).2 38 := by
  obtain ⟨sh, hp, hi50, h6⟩ := zsg st I hi hcl
  obtain ⟨_, k0, _, mo1, mo4, args, nx0⟩ := bSh6 sh o
  obtain ⟨kid, lt1, sc1⟩ := args j hj
  have hkc := (K.2.2.2.1 _ (List.mem_cons_self ..)).1
  have hb : dnb s ≤ 950 := I.2.1.2.2.2.2.2.2.2.2.2.2.2.2.2
  have q1 := (zsg st I hi kid.1).2.1
  generalize hA : 40 * i + s_arg S (dl s i) p (j + 1) = A at *
  have hAp : A ≠ 40 * i + p := by have := kid.2.2.2.1; omega
  -- the class
  let s1 : zD := (kA (kA (dk s) 8 A x) 10 (40 * i + p) (hz_n A), s.2)
  have hsame : bSame (· = 40 * i + p) s s1 := by
    refine ⟨rfl, ⟨rfl, rfl, rfl, rfl, fun b b1 b2 => ?_, fun c hc => ?_, fun c hc => ?_⟩, rfl, rfl, rfl, rfl, rfl, fun _ _ _ _ => rfl, fun _ _ => rfl⟩
    · show (kA (kA (dk s) 8 A x) 10 (40 * i + p) (hz_n A)).2.1 b = _
      rw [kA2n _ _ _ _ _ (by omega), kA2n _ _ _ _ _ (by omega)]
    · show (kA (kA (dk s) 8 A x) 10 (40 * i + p) (hz_n A)).2.1 8 c = _
      rw [kA2n _ _ _ _ _ (by decide), kA2, if_pos rfl, if_neg]
      intro e; rw [e] at hc; exact hc hgn
    · have hc' : c ≠ 40 * i + p := hc
      show (kA (kA (dk s) 8 A x) 10 (40 * i + p) (hz_n A)).2.1 9 c = _ ∧ (kA (kA (dk s) 8 A x) 10 (40 * i + p) (hz_n A)).2.1 10 c = _
      rw [kA2n _ _ _ _ _ (by decide), kA2n _ _ _ _ _ (by decide), kA2, if_pos rfl, if_neg hc', kA2n _ _ _ _ _ (by decide)]; exact ⟨rfl, rfl⟩
  have I1 := bInv_same st I hsame
  have u1 := bUp_same (S := S) (dfs := dfs) hsame I.2.2.2.2.2.2.1
  obtain ⟨n1, n2⟩ := List.nodup_cons.mp K.2.2.1
  have K1 : bStk S s1 ((40 * i + p) :: r) := bStk_same hsame (by show (kA (kA (dk s) 8 A x) 10 (40 * i + p) (hz_n A)).2.1 11 = _; rw [kA2n _ _ _ _ _ (by decide), kA2n _ _ _ _ _ (by decide)]) rfl K
  have fr1 : bFr S l0 f0 s1 r (40 * i + p) f1 := bFr_same I (bDefs_of st I) hsame (fun c hc e => n1 (e ▸ hc)) (fun _ _ => ⟨rfl, rfl⟩) fr
  have kf1 : bKF S s1 (40 * i + p) f1 f2 := bKF_same I hsame (fun _ _ => rfl) kf
  have hks1 : ∀ y, ks s1 y = ks s y := fun y => by
    show (kA (kA (dk s) 8 A x) 10 (40 * i + p) (hz_n A)).2.1 6 y = _
    rw [kA2n _ _ _ _ _ (by decide), kA2n _ _ _ _ _ (by decide)]
  have env1 : bEnv S s1 i (dl s i) p a := bEnv_mono hb u1.1 env
  obtain ⟨m, μ', s', q, I2, ag2, re, hdk, hg2, u2, ⟨gl, gd, ge, gc, gb, gp, f37, f38⟩, cn⟩ := m_promT (a := a) (i := i) (p := s_arg S (dl s i) p (j + 1)) hF st I1 (μ := μ) ag hi kid.1 kid.2.2.1 (by rw [hA]; exact hgn) hn (by show ks s1 (40 * i + s_pa S (dl s i) _) ≠ _; rw [kid.2.1, hks1, hkc]; decide) (bEnv_sc sc1 env1)
  rw [hA] at hg2 u2
  have hm := I2.2.2.2.2.1 _ _ hg2
  have ky := bKidsTop (Z := fun _ => False) (Y := (· = A)) (B := fun _ => False) (Q := fun _ => False) st I1 K1 hi hcl (fun _ => id) (fun _ h => h.elim) (fun y hy => ⟨s_arg S (dl s i) p (j + 1), by have hy' : y = A := hy; rw [hy']; exact hA.symm, kid.1, kid.2.1, by have hy' : y = A := hy; rw [hy', hks1, ← hA]; exact (I.2.2.2.2.2.2.2 i _ hi kid.1).2.2 (Or.inl kid.2.2.1) (by rw [hA]; exact hgn)⟩) (fun _ h => h.elim)
  refine ⟨m, μ', s', q, hm.1, hm.2.1, I2, ag2, re, hdk, hg2, fun y hy => (u2.2.2.1 y hy).1, bGrow_trans u1.1 u2.1, ⟨gl, gd, ge, gc, gb, gp⟩, ?_, bStk_g hdk gl ge K1, bFr_up (b_le I1) hb u2 (bDefs_of st I1) (fun l _ => by rw [hdk]) ky.1 ky.2.1 (fun y _ => by rw [f37, f38]; exact ⟨rfl, rfl⟩) fr1, bKF_up u2 ky.2.2 (fun y _ => by rw [f37]) kf1, cn _ _ _ _ _ _ (bCnt_same hsame cnt), f37, f38⟩
  exact (u2.2.2.1 _ ky.2.2).2.1 id

theorem bAg_bind {s : zD} {μ : zM} {v m a : Int32} (ag : bAg s μ) : bAg (bsR s (mB (dm s) (dnb s) v m a) (dnc s) (dnb s + 1)) (mB μ (dnb s) v m a) := by
  obtain ⟨⟨a1, a2, a3, a4⟩, b, c⟩ := ag
  refine ⟨⟨?_, rfl, ?_, ?_⟩, ?_, ?_⟩
  · show (mB μ _ _ _ _).1 15 = (mB (dm s) _ _ _ _).1 15
    rw [mB_s _ _ _ _ _ _ (by decide), mB_s _ _ _ _ _ _ (by decide)]; exact a1
  · show (mB μ _ _ _ _).1 19 = (mB (dm s) _ _ _ _).1 19
    rw [mB_s _ _ _ _ _ _ (by decide), mB_s _ _ _ _ _ _ (by decide)]; exact a3
  · show (mB μ _ _ _ _).1 20 = (mB (dm s) _ _ _ _).1 20
    rw [mB_s _ _ _ _ _ _ (by decide), mB_s _ _ _ _ _ _ (by decide)]; exact a4
  · intro y y1 y2 y3
    show (mB μ _ _ _ _).2 y = (mB (dm s) _ _ _ _).2 y
    funext x
    rw [mB_a, mB_a, b 34 (by decide) (by decide) (by decide), b 35 (by decide) (by decide) (by decide), b 36 (by decide) (by decide) (by decide), b y y1 y2 y3]
  · intro j hj
    show (mB μ _ _ _ _).2 33 j = (mB (dm s) _ _ _ _).2 33 j
    rw [mB_an _ _ _ _ _ _ (by decide) (by decide) (by decide), mB_an _ _ _ _ _ _ (by decide) (by decide) (by decide)]; exact c j hj
theorem bRest_bind {μ : zM} {nb : Nat} {v m a : Int32} : bRest μ (mB μ nb v m a) :=
  ⟨fun b _ b2 => mB_s _ _ _ _ _ _ b2, ⟨mB_an _ _ _ _ _ _ (by decide) (by decide) (by decide), mB_an _ _ _ _ _ _ (by decide) (by decide) (by decide)⟩, mB_an _ _ _ _ _ _ (by decide) (by decide) (by decide), mB_an _ _ _ _ _ _ (by decide) (by decide) (by decide), mB_an _ _ _ _ _ _ (by decide) (by decide) (by decide)⟩
-- what has been bound for an entry
def pv (nb k : Nat) : Int := if k = 0 then -1 else (nb : Int) + k - 1
def bBN (s : zD) (nb n : Nat) (N : Nat → Nat) (M : Nat → Int) : Prop := ∀ k, k < n → (dm s).2 34 (nb + k) = hz_n (N k) ∧ (dm s).2 35 (nb + k) = hz_n (M k) ∧ (dm s).2 36 (nb + k) = hz_n (pv nb k)
theorem bBN_grow {s s' : zD} {nb n : Nat} {N : Nat → Nat} {M : Nat → Int} (g : bGrow s s') (hn : nb + n ≤ dnb s) (H : bBN s nb n N M) : bBN s' nb n N M := by
  intro k hk
  obtain ⟨a1, a2, a3⟩ := g.2.2.1.2 (nb + k) (by omega)
  obtain ⟨b1, b2, b3⟩ := H k hk
  exact ⟨by rw [a1, b1], by rw [a2, b2], by rw [a3, b3]⟩
theorem bBN_bind {s : zD} {nb n : Nat} {N : Nat → Nat} {M : Nat → Int} (g : bGrow s (bsR s (mB (dm s) (dnb s) (hz_n (N n)) (hz_n (M n)) (hz_n (pv nb n))) (dnc s) (dnb s + 1))) (hn : dnb s = nb + n) (H : bBN s nb n N M) :
    bBN (bsR s (mB (dm s) (dnb s) (hz_n (N n)) (hz_n (M n)) (hz_n (pv nb n))) (dnc s) (dnb s + 1)) nb (n + 1) N M := by
  intro k hk
  by_cases e : k = n
  · subst e
    show (mB _ _ _ _ _).2 34 _ = _ ∧ (mB _ _ _ _ _).2 35 _ = _ ∧ (mB _ _ _ _ _).2 36 _ = _
    rw [← hn]
    refine ⟨?_, ?_, ?_⟩
    · rw [mB_a]; simp
    · rw [mB_a]; simp
    · rw [mB_a]; simp
  · exact bBN_grow g (by omega) H k (by omega)
-- the promises that the function has are bound
theorem m_fd1T {E : Nat → Option zT} {dfs : Nat → Option Nat} {ST : Nat → Nat → Int32} {F l0 am f0 wn wr cr ps oe : Nat} {S : zG} {r : List Nat} {f1 f2 c0 l h nb j0 nc0 : Nat} {x y z c v : Int32} {M : Nat → Int} {T : zT} (st : bSta E dfs ST F S) (hl : l < 26) (DT : bDef ST F S T l) (hh : h < s_pc S l) (hnb : nb + h < 950)
    (hv : 0 < h → v = hz_n j0 ∧ j0 + 2 + h ≤ nc0 ∧ nc0 ≤ 2600) : ∀ (n k f ob : Nat) (s : zD) (μ : zM), k + n = h → n < f → bInv S dfs ST l0 am s → bStk S s (c0 :: r) → bFr S l0 f0 s r c0 f1 → bKF S s c0 f1 f2 → bAg s μ → dnc s = nc0 → dnb s = nb + k → bBN s nb k (s_vl S l) M → (∀ k', k' < h → (dm s).2 33 (j0 + 2 + k') = hz_n (M k')) → bCnt S s wn wr cr ps ob oe →
    ∃ s' μ', m_fd1 F x y z v (hz_n l) (hz_n h) c f μ (hz_n (pv nb k)) (hz_n k) = m_fd2 F x y z (hz_n l) (hz_n h) c F μ' (hz_n (pv nb h)) (hz_n 0)
      ∧ bInv S dfs ST l0 am s' ∧ bStk S s' (c0 :: r) ∧ bFr S l0 f0 s' r c0 f1 ∧ bKF S s' c0 f1 f2 ∧ bAg s' μ' ∧ bRest μ μ' ∧ bGrow s s' ∧ dk s' = dk s ∧ (dg s' = dg s ∧ da s' = da s ∧ dd s' = dd s ∧ dl s' = dl s ∧ de s' = de s ∧ dnp s' = dnp s ∧ dnc s' = dnc s) ∧ dnb s' = nb + h ∧ bBN s' nb h (s_vl S l) M ∧ bCnt S s' wn wr cr ps (ob + n) oe ∧ (dm s').2 37 = (dm s).2 37 ∧ (dm s').2 38 = (dm s).2 38
  | n, k, 0, _, _, _, _, hf, _, _, _, _, _, _, _, _, _, _ => by omega
  | 0, k, f + 1, ob, s, μ, hk, _, I, K, fr, kf, ag, hc, hn, bn, h33, cnt => by
    have : k = h := by omega
    subst this
    refine ⟨s, μ, ?_, I, K, fr, kf, ag, bRest_refl _, ?_, rfl, ⟨rfl, rfl, rfl, rfl, rfl, rfl, rfl⟩, hn, bn, cnt, rfl, rfl⟩
    · have := DT.2.2.1
      rw [m_fd1, zt k (by omega), if_pos (by omega)]
    · exact ⟨⟨fun _ _ h => h, fun _ _ h => h, fun _ _ => rfl⟩, ⟨Nat.le_refl _, fun _ _ => rfl⟩, ⟨Nat.le_refl _, fun _ _ => ⟨rfl, rfl, rfl⟩⟩, ⟨Nat.le_refl _, fun _ _ => rfl⟩, I.2.2.2.2.2.2.1⟩
  | n + 1, k, f + 1, ob, s, μ, hk, hf, I, K, fr, kf, ag, hc, hn, bn, h33, cnt => by
    have hpc := DT.2.2.1
    obtain ⟨ev, hj, hnc⟩ := hv (by omega)
    obtain ⟨pn, pl, _, _⟩ := DT.2.2.2.2.2.2.1 k (by omega)
    have hpv : -1 ≤ pv nb k ∧ pv nb k < dnb s := by unfold pv; split <;> omega
    obtain ⟨I1, K1, fr1, kf1, gr1, cn1⟩ := bBind1 (v := hz_n (s_vl S l k)) (m := hz_n (M k)) (a := pv nb k) (ps := ps) st I K fr kf (by omega) hpv (bCnt_ps (Nat.le_succ _) (Nat.le_refl _) cnt)
    obtain ⟨s', μ', e1, I2, K2, fr2, kf2, ag2, re2, gr2, dk2, gh2, nb2, bn2, cn2, g37, g38⟩ := m_fd1T st hl DT hh hnb hv n (k + 1) f (ob + 1) (bsR s (mB (dm s) (dnb s) (hz_n (s_vl S l k)) (hz_n (M k)) (hz_n (pv nb k))) (dnc s) (dnb s + 1)) (mB μ (dnb s) (hz_n (s_vl S l k)) (hz_n (M k)) (hz_n (pv nb k)))
      (by omega) (by omega) I1 K1 fr1 kf1 (bAg_bind ag) hc (by show dnb s + 1 = _; omega) (bBN_bind gr1 hn bn) (fun k' hk' => by
        show (mB _ _ _ _ _).2 33 _ = _
        rw [mB_an _ _ _ _ _ _ (by decide) (by decide) (by decide)]; exact h33 k' hk') cn1
    refine ⟨s', μ', ?_, I2, K2, fr2, kf2, ag2, bRest_trans bRest_bind re2, bGrow_trans gr1 gr2, dk2, gh2, nb2, bn2, ?_, ?_, ?_⟩
    · rw [← e1]
      conv => lhs; rw [m_fd1]
      have i17 : μ.1 17 = hz_n (dnb s) := by rw [ag.1.2.1]; exact I.2.1.2.2.2.2.2.2.2.2.2.2.1
      have i20 : μ.2 20 (4 * l + k) = hz_n (s_vl S l k) := by
        rw [ag.2.1 20 (by decide) (by decide) (by decide), I.1.1 20 (by decide) (by decide)]; exact pn
      have i33 : μ.2 33 (j0 + 2 + k) = hz_n (M k) := by
        rw [ag.2.2 _ (by omega)]; exact h33 k (by omega)
      have x1 : hz_n 4 * hz_n (l : Int) + hz_n (k : Int) = hz_n ((4 * l + k : Nat) : Int) := by rw [zn_mul, zn_add]; rfl
      have x2 : hz_n (j0 : Int) + hz_n 2 + hz_n (k : Int) = hz_n ((j0 + 2 + k : Nat) : Int) := by rw [zn_add, zn_add]; rfl
      have x3 : hz_n (dnb s : Int) + hz_n 1 - hz_n 1 = hz_n (pv nb (k + 1)) := by
        rw [zn_add, zn_sub]; unfold pv; rw [if_neg (by omega)]; congr 1; omega
      have th : (hz_n (h : Int)).toInt = h := zt h (by omega)
      rw [th, zt k (by omega), if_neg (by omega), x1, zt (4 * l + k) (by omega), zgd_t (by omega), ev, x2, zt (j0 + 2 + k) (by omega), zgd_t (by omega), i17, zt (dnb s) (by omega), zgd_t (by omega), Int.toNat_natCast, Int.toNat_natCast, i20, i33, x3, zn1, m_bindF i17 (by omega)]
      rfl
    · have : ob + 1 + n = ob + (n + 1) := by omega
      rw [this] at cn2; exact cn2
    · rw [g37]; exact mB_an _ _ _ _ _ _ (by decide) (by decide) (by decide)
    · rw [g38]; exact mB_an _ _ _ _ _ _ (by decide) (by decide) (by decide)

theorem m_fd2T {E : Nat → Option zT} {dfs : Nat → Option Nat} {ST : Nat → Nat → Int32} {F l0 am f0 wn wr cr ps oe : Nat} {S : zG} {r : List Nat} {f1 f2 i p u l h t nb lc : Nat} {a : Int} {w : Int32} {κ0 : zK} {T : zT} (hF : 951 ≤ F) (st : bSta E dfs ST F S) (hl : l < 26) (DT : bDef ST F S T l) (hh : h + t = s_pc S l) (hnb : nb + h + t < 950)
    (ho : s_op S lc p = 6) (hut : u + t ≤ s_mo S lc p) : ∀ (n k f ob : Nat) (s : zD) (μ : zM) (M : Nat → Int), k + n = t → n < f → bInv S dfs ST l0 am s → bStk S s ((40 * i + p) :: r) → bFr S l0 f0 s r (40 * i + p) f1 → bKF S s (40 * i + p) f1 f2 → bAg s μ → i < de s → dl s i = lc → s_cl S lc p = 1 → bEnv S s i lc p a →
      dnb s = nb + (h + k) → bBN s nb (h + k) (s_vl S l) M → dk s = kT κ0 (40 * i + p) w (fun j => 40 * i + s_arg S lc p (u + j)) k → (∀ j, j < k → dg s (40 * i + s_arg S lc p (u + (j + 1))) = some (M (h + j))) → (∀ j, k ≤ j → u + j < s_mo S lc p → dg s (40 * i + s_arg S lc p (u + (j + 1))) = none) → dnp s + n < 1000 → bCnt S s wn wr cr ps ob oe →
    ∃ s' μ' M', m_fd2 F (hz_n (40 * lc + s_nd S lc p : Nat)) (hz_n u) (hz_n a) (hz_n l) (hz_n h) (hz_n t) f μ (hz_n (pv nb (h + k))) (hz_n k) = m_fd3 μ' (hz_n (40 * lc + s_nd S lc p : Nat)) (hz_n u) (hz_n a) (hz_n l) (hz_n t) (hz_n (pv nb (h + t)))
      ∧ bInv S dfs ST l0 am s' ∧ bStk S s' ((40 * i + p) :: r) ∧ bFr S l0 f0 s' r (40 * i + p) f1 ∧ bKF S s' (40 * i + p) f1 f2 ∧ bAg s' μ' ∧ bRest μ μ' ∧ bGrow s s' ∧ (dd s' = dd s ∧ dl s' = dl s ∧ de s' = de s ∧ dnc s' = dnc s ∧ dnp s' ≤ dnp s + n) ∧ dnb s' = nb + (h + t) ∧ bBN s' nb (h + t) (s_vl S l) M'
      ∧ dk s' = kT κ0 (40 * i + p) w (fun j => 40 * i + s_arg S lc p (u + j)) t ∧ (∀ j, j < t → dg s' (40 * i + s_arg S lc p (u + (j + 1))) = some (M' (h + j))) ∧ (∀ j, t ≤ j → u + j < s_mo S lc p → dg s' (40 * i + s_arg S lc p (u + (j + 1))) = none) ∧ (∀ k', k' < h + k → M' k' = M k')
      ∧ da s' (40 * i + p) = da s (40 * i + p) ∧ bCnt S s' wn wr cr ps (ob + n) oe ∧ (dm s').2 37 = (dm s).2 37 ∧ (dm s').2 38 = (dm s).2 38
  | n, k, 0, _, _, _, _, _, hf, _, _, _, _, _, _, _, _, _, _, _, _, _, _, _, _ => by omega
  | 0, k, f + 1, ob, s, μ, M, hk, _, I, K, fr, kf, ag, hi, hlc, hcl, env, hn, bn, hdk, hg1, hg2, hnp, cnt => by
    have : k = t := by omega
    subst this
    have hpc := DT.2.2.1
    refine ⟨s, μ, M, ?_, I, K, fr, kf, ag, bRest_refl _, ⟨⟨fun _ _ h => h, fun _ _ h => h, fun _ _ => rfl⟩, ⟨Nat.le_refl _, fun _ _ => rfl⟩, ⟨Nat.le_refl _, fun _ _ => ⟨rfl, rfl, rfl⟩⟩, ⟨Nat.le_refl _, fun _ _ => rfl⟩, I.2.2.2.2.2.2.1⟩, ⟨rfl, rfl, rfl, rfl, Nat.le_refl _⟩, hn, bn, hdk, hg1, hg2, fun _ _ => rfl, rfl, cnt, rfl, rfl⟩
    rw [m_fd2, zt k (by omega), if_pos (by omega)]
  | n + 1, k, f + 1, ob, s, μ, M, hk, hf, I, K, fr, kf, ag, hi, hlc, hcl, env, hn, bn, hdk, hg1, hg2, hnp, cnt => by
    have hpc := DT.2.2.1
    subst hlc
    have sh := (zsg st I hi hcl).1
    obtain ⟨_, k0, _, mo1, mo4, args, nx0⟩ := bSh6 sh ho
    obtain ⟨kid, lt1, sc1⟩ := args (u + k) (by omega)
    have hl' := (I.2.2.1 i hi).1
    obtain ⟨TT, DD⟩ := bDefs_of st I i hi
    have hN := DD.2.2.2.2.2.2.2.2.2.2.2.2.2 p hcl
    have eA : u + (k + 1) = u + k + 1 := by omega
    have hgk := hg2 k (Nat.le_refl _) (by omega)
    rw [eA] at hgk
    obtain ⟨m, μ1, s1, q1, qm1, qm2, I1, ag1, re1, dk1, dg1, dgo, gr1, ⟨gl1, gd1, ge1, gc1, gb1, gp1⟩, da1, K1, fr1, kf1, cn1, f371, f381⟩ := bTake1 (x := if k = 0 then w else hz_n (40 * i + s_arg S (dl s i) p (u + k) : Nat)) hF st I K fr kf (by omega) ag hi hcl ho (j := u + k) (by omega) hgk env cnt
    have hb1 : dnb s1 = nb + (h + k) := by rw [gb1]; exact hn
    obtain ⟨pn, pl, _, _⟩ := DT.2.2.2.2.2.2.1 (h + k) (by omega)
    have hpv : -1 ≤ pv nb (h + k) ∧ pv nb (h + k) < dnb s1 := by unfold pv; split <;> omega
    obtain ⟨I2, K2, fr2, kf2, gr2, cn2⟩ := bBind1 (v := hz_n (s_vl S l (h + k))) (m := hz_n m) (a := pv nb (h + k)) (ps := ps) st I1 K1 fr1 kf1 (by omega) hpv (bCnt_ps (Nat.le_succ _) (Nat.le_refl _) cn1)
    -- the new meaning
    let M1 : Nat → Int := fun y => if y = h + k then m else M y
    have hM1 : M1 (h + k) = m := if_pos rfl
    have bn1 : bBN s1 nb (h + k) (s_vl S l) M1 := by
      intro y hy
      have hM : M1 y = M y := if_neg (by omega)
      rw [hM]; exact bBN_grow gr1 (by omega) bn y hy
    have gr2' := gr2
    have ag2 := bAg_bind (v := hz_n (s_vl S l (h + k))) (m := hz_n m) (a := hz_n (pv nb (h + k))) ag1
    have bn2 : bBN (bsR s1 (mB (dm s1) (dnb s1) (hz_n (s_vl S l (h + k))) (hz_n m) (hz_n (pv nb (h + k)))) (dnc s1) (dnb s1 + 1)) nb (h + k + 1) (s_vl S l) M1 := by
      have := bBN_bind (s := s1) (nb := nb) (n := h + k) (N := s_vl S l) (M := M1) (by rw [hM1]; exact gr2) hb1 bn1
      rw [hM1] at this; exact this
    have hb0 : dnb s ≤ 950 := by omega
    have env2 : bEnv S (bsR s1 (mB (dm s1) (dnb s1) (hz_n (s_vl S l (h + k))) (hz_n m) (hz_n (pv nb (h + k)))) (dnc s1) (dnb s1 + 1)) i (dl s i) p a := bEnv_mono (by omega) gr2 (bEnv_mono hb0 gr1 env)
    have hinj : ∀ j, j < s_mo S (dl s i) p → j ≠ u + k → s_arg S (dl s i) p (j + 1) ≠ s_arg S (dl s i) p (u + k + 1) := by
      have mono : ∀ d j, j + d < s_mo S (dl s i) p → s_arg S (dl s i) p (j + 1) ≤ s_arg S (dl s i) p (j + d + 1) := by
        intro d
        induction d with
        | zero => intro j _; exact Nat.le_refl _
        | succ d ih =>
          intro j hj
          have h1 := ih j (by omega)
          have h2 := (args (j + d + 1) (by omega)).2.1
          have e : j + (d + 1) + 1 = j + d + 1 + 1 := by omega
          rw [e]; omega
      intro j hj hne
      rcases Nat.lt_or_ge j (u + k) with h1 | h1
      · have h2 := mono (u + k - j - 1) j (by omega)
        have h3 := (args (u + k) (by omega)).2.1
        have e : j + (u + k - j - 1) + 1 = u + k := by omega
        rw [e] at h2; omega
      · have h2 := mono (j - (u + k) - 1) (u + k) (by omega)
        have h3 := (args j hj).2.1
        have e : u + k + (j - (u + k) - 1) + 1 = j := by omega
        rw [e] at h2; omega
    obtain ⟨s', μ', M', e1, I3, K3, fr3, kf3, ag3, re3, gr3, ⟨gd3, gl3, ge3, gc3, gp3⟩, nb3, bn3, dk3, dg3, dg3', hM3, da3, cn3, f373, f383⟩ := m_fd2T (lc := dl s i) hF st hl DT hh hnb ho hut n (k + 1) f (ob + 1) (bsR s1 (mB (dm s1) (dnb s1) (hz_n (s_vl S l (h + k))) (hz_n m) (hz_n (pv nb (h + k)))) (dnc s1) (dnb s1 + 1)) (mB μ1 (dnb s1) (hz_n (s_vl S l (h + k))) (hz_n m) (hz_n (pv nb (h + k)))) M1
      (by omega) (by omega) I2 K2 fr2 kf2 ag2 (by show i < de s1; omega) (by show dl s1 i = _; rw [gl1]) hcl env2 (by show dnb s1 + 1 = _; omega) bn2 (by show dk s1 = _; rw [dk1, hdk]; rfl) (by
        intro j hj
        show dg s1 _ = _
        by_cases e : j = k
        · subst e
          have hM : M1 (h + j) = m := if_pos rfl
          rw [hM, eA]; exact dg1
        · have hM : M1 (h + j) = M (h + j) := if_neg (by omega)
          have e2 : u + (j + 1) = u + j + 1 := by omega
          rw [hM, e2, dgo _ (by have := hinj (u + j) (by omega) (by omega); omega)]
          have := hg1 j (by omega)
          rw [e2] at this; exact this) (by
        intro j hj hju
        show dg s1 _ = _
        have e2 : u + (j + 1) = u + j + 1 := by omega
        rw [e2, dgo _ (by have := hinj (u + j) (by omega) (by omega); omega)]
        have := hg2 j (by omega) hju
        rw [e2] at this; exact this) (by show dnp s1 + n < 1000; omega) cn2
    refine ⟨s', μ', M', ?_, I3, K3, fr3, kf3, ag3, bRest_trans re1 (bRest_trans bRest_bind re3), bGrow_trans gr1 (bGrow_trans gr2 gr3), ⟨by rw [gd3]; exact gd1, by rw [gl3]; exact gl1, by rw [ge3]; exact ge1, by rw [gc3]; exact gc1, ?_⟩, nb3, bn3, dk3, dg3, dg3', ?_, ?_, ?_, ?_, ?_⟩
    · rw [← e1]
      conv => lhs; rw [m_fd2]
      have i17 : μ1.1 17 = hz_n (dnb s1) := by rw [ag1.1.2.1]; exact I1.2.1.2.2.2.2.2.2.2.2.2.2.1
      have i20 : μ.2 20 (4 * l + (h + k)) = hz_n (s_vl S l (h + k)) := by
        rw [ag.2.1 20 (by decide) (by decide) (by decide), I.1.1 20 (by decide) (by decide)]; exact pn
      have x1 : hz_n 4 * hz_n (l : Int) + hz_n (h : Int) + hz_n (k : Int) = hz_n ((4 * l + (h + k) : Nat) : Int) := by rw [zn_mul, zn_add, zn_add]; congr 1; omega
      have x2 : hz_n 1 + hz_n (u : Int) + hz_n (k : Int) = hz_n ((u + k + 1 : Nat) : Int) := by rw [zn_add, zn_add]; congr 1; omega
      have x3 : hz_n (dnb s1 : Int) + hz_n 1 - hz_n 1 = hz_n (pv nb (h + (k + 1))) := by
        rw [zn_add, zn_sub]; unfold pv; rw [if_neg (by omega)]; congr 1; omega
      have ch := kid.2.2.2.2 μ (by rw [ag.2.1 21 (by decide) (by decide) (by decide)]; exact I.1.1 21 (by decide) (by decide)) (by rw [ag.2.1 23 (by decide) (by decide) (by decide)]; exact I.1.1 23 (by decide) (by decide))
      have tt : (hz_n (t : Int)).toInt = t := zt t (by omega)
      rw [tt, zt k (by omega), if_neg (by omega), x1, zt (4 * l + (h + k)) (by omega), zgd_t (by omega), x2, ch, Option.bind_some, q1, Option.bind_some, Int.toNat_natCast, i20]
      dsimp only
      rw [i17, zt (dnb s1) (by omega), zgd_t (by omega), x3, zn1, m_bindF i17 (by omega)]
      rfl
    · have : dnp s' ≤ dnp s1 + n := gp3
      omega
    · intro y hy
      rw [hM3 y (by omega)]
      exact if_neg (by omega)
    · rw [da3]; exact da1
    · have : ob + 1 + n = ob + (n + 1) := by omega
      rw [this] at cn3; exact cn3
    · rw [f373]
      show (mB _ _ _ _ _).2 37 = _
      rw [mB_an _ _ _ _ _ _ (by decide) (by decide) (by decide)]; exact f371
    · rw [f383]
      show (mB _ _ _ _ _).2 38 = _
      rw [mB_an _ _ _ _ _ _ (by decide) (by decide) (by decide)]; exact f381

theorem s_arg_inj {ST : Nat → Nat → Int32} {F : Nat} {S : zG} {l p : Nat} (args : ∀ j, j < s_mo S l p → bKid ST F S l p (j + 1) (s_arg S l p (j + 1)) 1 ∧ s_arg S l p j < s_arg S l p (j + 1) ∧ s_sc S l (s_arg S l p (j + 1)) = s_sc S l p) {a b : Nat} (ha : a ≤ s_mo S l p) (hb : b ≤ s_mo S l p) (h : a < b) : s_arg S l p a < s_arg S l p b := by
  have mono : ∀ d j, j + d ≤ s_mo S l p → s_arg S l p j ≤ s_arg S l p (j + d) := by
    intro d
    induction d with
    | zero => intro j _; exact Nat.le_refl _
    | succ d ih =>
      intro j hj
      have h1 := ih j (by omega)
      have h2 := (args (j + d) (by omega)).2.1
      have e : j + (d + 1) = j + d + 1 := by omega
      rw [e]; omega
  have h1 := mono (b - a - 1) a (by omega)
  have h2 := (args (b - 1) (by omega)).2.1
  have e1 : a + (b - a - 1) = b - 1 := by omega
  have e2 : b - 1 + 1 = b := by omega
  rw [e1] at h1; rw [e2] at h2; omega
-- the takers after the arguments are taken
theorem kT_8 {κ : zK} {c : Nat} {w : Int32} {A : Nat → Nat} : ∀ {t : Nat}, (∀ a b, 1 ≤ a → a < b → b ≤ t → A a ≠ A b) →
    (∀ j, j < t → (kT κ c w A t).2.1 8 (A (j + 1)) = if j = 0 then w else hz_n (A j)) ∧ (∀ x, (∀ j, j < t → x ≠ A (j + 1)) → (kT κ c w A t).2.1 8 x = κ.2.1 8 x) ∧ (∀ x, x ≠ c → (kT κ c w A t).2.1 10 x = κ.2.1 10 x) ∧ (0 < t → (kT κ c w A t).2.1 10 c = hz_n (A t))
  | 0, _ => ⟨fun j hj => by omega, fun _ _ => rfl, fun _ _ => rfl, fun h => by omega⟩
  | t + 1, hA => by
    obtain ⟨h1, h2, h3, h4⟩ := kT_8 (κ := κ) (c := c) (w := w) (A := A) (t := t) (fun a b a1 a2 a3 => hA a b a1 a2 (by omega))
    refine ⟨fun j hj => ?_, fun x hx => ?_, fun x hx => ?_, fun _ => ?_⟩
    · show (kA (kA _ 8 (A (t + 1)) _) 10 c _).2.1 8 (A (j + 1)) = _
      rw [kA2n _ _ _ _ _ (by decide), kA2, if_pos rfl]
      by_cases e : j = t
      · subst e; rw [if_pos rfl]
      · rw [if_neg (hA (j + 1) (t + 1) (by omega) (by omega) (by omega))]; exact h1 j (by omega)
    · show (kA (kA _ 8 (A (t + 1)) _) 10 c _).2.1 8 x = _
      rw [kA2n _ _ _ _ _ (by decide), kA2, if_pos rfl, if_neg (hx t (by omega))]; exact h2 x (fun j hj => hx j (by omega))
    · show (kA (kA _ 8 (A (t + 1)) _) 10 c _).2.1 10 x = _
      rw [kA2, if_pos rfl, if_neg hx, kA2n _ _ _ _ _ (by decide)]; exact h3 x hx
    · show (kA (kA _ 8 (A (t + 1)) _) 10 c _).2.1 10 c = _
      rw [kA2, if_pos rfl, if_pos rfl]
-- the promises that the function has are copied
theorem m_ext1T {F h j0 nc : Nat} {x y z w : Int32} {M : Nat → Int} (hv : 0 < h → x = hz_n j0 ∧ j0 + 2 + h ≤ nc) (hnc : nc + 2 + h ≤ 2600) (hh : h ≤ 4) : ∀ (n k f : Nat) (μ : zM), k + n = h → n < f → (∀ k', k' < h → μ.2 33 (j0 + 2 + k') = hz_n (M k')) → (∀ k', k' < k → μ.2 33 (nc + 2 + k') = hz_n (M k')) →
    ∃ μ', m_ext1 F x y z w (hz_n h) (hz_n nc) f μ (hz_n k) = m_ext2 F y z w (hz_n h) (hz_n nc) F μ' z ∧ μ'.1 = μ.1 ∧ (∀ b, b ≠ 33 → μ'.2 b = μ.2 b) ∧ (∀ q, q < nc + 2 ∨ nc + 2 + h ≤ q → μ'.2 33 q = μ.2 33 q) ∧ (∀ k', k' < h → μ'.2 33 (nc + 2 + k') = hz_n (M k'))
  | n, k, 0, _, _, hf, _, _ => by omega
  | 0, k, f + 1, μ, hk, _, _, h2 => by
    have : k = h := by omega
    subst this
    refine ⟨μ, ?_, rfl, fun _ _ => rfl, fun _ _ => rfl, h2⟩
    rw [m_ext1, zt k (by omega), if_pos (by omega)]
  | n + 1, k, f + 1, μ, hk, hf, h1, h2 => by
    obtain ⟨ex, hj⟩ := hv (by omega)
    obtain ⟨μ', e1, e2, e3, e4, e5⟩ := m_ext1T (F := F) (y := y) (z := z) (w := w) hv hnc hh n (k + 1) f (mA μ 33 (nc + 2 + k) (hz_n (M k))) (by omega) (by omega) (by
      intro k' hk'
      rw [mA2, if_pos rfl, if_neg (by omega)]; exact h1 k' hk') (by
      intro k' hk'
      rw [mA2, if_pos rfl]
      by_cases e : k' = k
      · subst e; rw [if_pos rfl]
      · rw [if_neg (by omega)]; exact h2 k' (by omega))
    refine ⟨μ', ?_, e2, ?_, ?_, e5⟩
    · rw [← e1]
      conv => lhs; rw [m_ext1]
      have th : (hz_n (h : Int)).toInt = h := zt h (by omega)
      have x2 : hz_n (j0 : Int) + hz_n 2 + hz_n (k : Int) = hz_n ((j0 + 2 + k : Nat) : Int) := by rw [zn_add, zn_add]; rfl
      have x3 : hz_n (nc : Int) + hz_n 2 + hz_n (k : Int) = hz_n ((nc + 2 + k : Nat) : Int) := by rw [zn_add, zn_add]; rfl
      rw [th, zt k (by omega), if_neg (by omega), ex, x2, x3, zt (j0 + 2 + k) (by omega), zgd_t (by omega), zt (nc + 2 + k) (by omega), zgd_t (by omega), Int.toNat_natCast, Int.toNat_natCast, h1 k (by omega), zn1]
    · intro b hb; rw [e3 b hb, mA2n _ _ _ _ _ hb]
    · intro q hq; rw [e4 q hq, mA2, if_pos rfl, if_neg (by omega)]
-- the arguments' promises are stored
theorem m_ext2T {E : Nat → Option zT} {dfs : Nat → Option Nat} {ST : Nat → Nat → Int32} {F l0 am f0 wn wr cr ps ob oe : Nat} {S : zG} {r : List Nat} {f1 f2 i p u h t nc lc : Nat} {a : Int} {w : Int32} {κ0 : zK} (hF : 951 ≤ F) (st : bSta E dfs ST F S) (hnc : nc + 2 + h + t ≤ 2600) (hh : h + t ≤ 4)
    (ho : s_op S lc p = 6) (hut : u + t = s_mo S lc p) : ∀ (n k f : Nat) (s : zD) (μ : zM) (M : Nat → Int), k + n = t → n < f → bInv S dfs ST l0 am s → bStk S s ((40 * i + p) :: r) → bFr S l0 f0 s r (40 * i + p) f1 → bKF S s (40 * i + p) f1 f2 → bAg s μ → i < de s → dl s i = lc → s_cl S lc p = 1 → bEnv S s i lc p a → dnc s = nc →
      (∀ k', k' < h + k → μ.2 33 (nc + 2 + k') = hz_n (M k')) → dk s = kT κ0 (40 * i + p) w (fun j => 40 * i + s_arg S lc p (u + j)) k → (∀ j, j < k → dg s (40 * i + s_arg S lc p (u + (j + 1))) = some (M (h + j))) → (∀ j, k ≤ j → u + j < s_mo S lc p → dg s (40 * i + s_arg S lc p (u + (j + 1))) = none) → dnp s + n < 1000 → bCnt S s wn wr cr ps ob oe →
    ∃ (s' : zD) (μ' : zM) (M' : Nat → Int), m_ext2 F (hz_n (40 * lc + s_nd S lc p : Nat)) (hz_n u) (hz_n a) (hz_n h) (hz_n nc) f μ (hz_n (u + k : Nat)) = some (m_found μ' (hz_n 3) (hz_n nc))
      ∧ bInv S dfs ST l0 am s' ∧ bStk S s' ((40 * i + p) :: r) ∧ bFr S l0 f0 s' r (40 * i + p) f1 ∧ bKF S s' (40 * i + p) f1 f2 ∧ bAg s' μ' ∧ (∀ b, b ≠ 15 → b ≠ 17 → μ'.1 b = μ.1 b) ∧ (∀ b, b = 16 ∨ b = 17 ∨ b = 37 ∨ b = 38 → μ'.2 b = μ.2 b) ∧ bGrow s s' ∧ (dd s' = dd s ∧ dl s' = dl s ∧ de s' = de s ∧ dnc s' = dnc s ∧ dnb s' = dnb s ∧ dnp s' ≤ dnp s + n)
      ∧ (∀ k', k' < h + t → μ'.2 33 (nc + 2 + k') = hz_n (M' k')) ∧ (∀ q, q < nc + 2 → μ'.2 33 q = μ.2 33 q) ∧ dk s' = kT κ0 (40 * i + p) w (fun j => 40 * i + s_arg S lc p (u + j)) t ∧ (∀ j, j < t → dg s' (40 * i + s_arg S lc p (u + (j + 1))) = some (M' (h + j))) ∧ (∀ k', k' < h + k → M' k' = M k')
      ∧ bCnt S s' wn wr cr ps ob oe ∧ (dm s').2 37 = (dm s).2 37 ∧ (dm s').2 38 = (dm s).2 38
  | n, k, 0, _, _, _, _, hf, _, _, _, _, _, _, _, _, _, _, _, _, _, _, _, _ => by omega
  | 0, k, f + 1, s, μ, M, hk, _, I, K, fr, kf, ag, hi, hlc, hcl, env, hc, h33, hdk, hg1, hg2, hnp, cnt => by
    have : k = t := by omega
    subst this
    subst hlc
    obtain ⟨TT, DD⟩ := bDefs_of st I i hi
    have hN := DD.2.2.2.2.2.2.2.2.2.2.2.2.2 p hcl
    have hl' := (I.2.2.1 i hi).1
    have mo4 := (bSh6 (zsg st I hi hcl).1 ho).2.2.2.2.1
    refine ⟨s, μ, M, ?_, I, K, fr, kf, ag, fun _ _ _ => rfl, fun _ _ => rfl, ⟨⟨fun _ _ h => h, fun _ _ h => h, fun _ _ => rfl⟩, ⟨Nat.le_refl _, fun _ _ => rfl⟩, ⟨Nat.le_refl _, fun _ _ => ⟨rfl, rfl, rfl⟩⟩, ⟨Nat.le_refl _, fun _ _ => rfl⟩, I.2.2.2.2.2.2.1⟩, ⟨rfl, rfl, rfl, rfl, rfl, Nat.le_refl _⟩, h33, fun _ _ => rfl, hdk, hg1, fun _ _ => rfl, cnt, rfl, rfl⟩
    have i23 : μ.2 23 (40 * dl s i + s_nd S (dl s i) p) = hz_n (s_mo S (dl s i) p) := by
      rw [ag.2.1 23 (by decide) (by decide) (by decide), I.1.1 23 (by decide) (by decide)]; exact hN.2.2.2.2.2.2.2.2.2.2.1 (Or.inl ho)
    rw [m_ext2, zt _ (by omega), zgd_t (by omega), Int.toNat_natCast, i23, zt (s_mo S (dl s i) p) (by omega), zt (u + k) (by omega), if_pos (by omega)]
  | n + 1, k, f + 1, s, μ, M, hk, hf, I, K, fr, kf, ag, hi, hlc, hcl, env, hc, h33, hdk, hg1, hg2, hnp, cnt => by
    subst hlc
    have sh := (zsg st I hi hcl).1
    obtain ⟨_, k0, _, mo1, mo4, args, nx0⟩ := bSh6 sh ho
    obtain ⟨kid, lt1, sc1⟩ := args (u + k) (by omega)
    have hl' := (I.2.2.1 i hi).1
    obtain ⟨TT, DD⟩ := bDefs_of st I i hi
    have hN := DD.2.2.2.2.2.2.2.2.2.2.2.2.2 p hcl
    have eA : u + (k + 1) = u + k + 1 := by omega
    have hgk := hg2 k (Nat.le_refl _) (by omega)
    rw [eA] at hgk
    obtain ⟨m, μ1, s1, q1, qm1, qm2, I1, ag1, re1, dk1, dg1, dgo, gr1, ⟨gl1, gd1, ge1, gc1, gb1, gp1⟩, da1, K1, fr1, kf1, cn1, f371, f381⟩ := bTake1 (x := if k = 0 then w else hz_n (40 * i + s_arg S (dl s i) p (u + k) : Nat)) hF st I K fr kf (by omega) ag hi hcl ho (j := u + k) (by omega) hgk env cnt
    have hb0 : dnb s ≤ 950 := I.2.1.2.2.2.2.2.2.2.2.2.2.2.2.2
    let M1 : Nat → Int := fun y => if y = h + k then m else M y
    have ag2 : bAg s1 (mA μ1 33 (nc + 2 + (h + k)) (hz_n m)) := by
      refine ⟨ag1.1, fun b b1 b2 b3 => ?_, fun j hj => ?_⟩
      · rw [mA2n _ _ _ _ _ b3]; exact ag1.2.1 b b1 b2 b3
      · rw [mA2, if_pos rfl, if_neg (by omega)]; exact ag1.2.2 j hj
    obtain ⟨s', μ', M', e1, I3, K3, fr3, kf3, ag3, re3, re3', gr3, ⟨gd3, gl3, ge3, gc3, gb3, gp3⟩, h333, h333', dk3, dg3, hM3, cn3, f373, f383⟩ := m_ext2T (lc := dl s i) hF st hnc hh ho hut n (k + 1) f s1 (mA μ1 33 (nc + 2 + (h + k)) (hz_n m)) M1
      (by omega) (by omega) I1 K1 fr1 kf1 ag2 (by omega) (by rw [gl1]) hcl (bEnv_mono hb0 gr1 env) (by omega) (by
        intro k' hk'
        rw [mA2, if_pos rfl]
        by_cases e : k' = h + k
        · have hM : M1 k' = m := if_pos e
          rw [if_pos (by omega), hM]
        · have hM : M1 k' = M k' := if_neg e
          rw [if_neg (by omega), hM, re1.2.2.1]; exact h33 k' (by omega)) (by rw [dk1, hdk]; rfl) (by
        intro j hj
        by_cases e : j = k
        · subst e
          have hM : M1 (h + j) = m := if_pos rfl
          rw [hM, eA]; exact dg1
        · have hM : M1 (h + j) = M (h + j) := if_neg (by omega)
          have e2 : u + (j + 1) = u + j + 1 := by omega
          rw [hM, e2, dgo _ (by have := s_arg_inj args (a := u + j + 1) (b := u + k + 1) (by omega) (by omega) (by omega); omega)]
          have := hg1 j (by omega)
          rw [e2] at this; exact this) (by
        intro j hj hju
        have e2 : u + (j + 1) = u + j + 1 := by omega
        rw [e2, dgo _ (by have := s_arg_inj args (a := u + k + 1) (b := u + j + 1) (by omega) (by omega) (by omega); omega)]
        have := hg2 j (by omega) hju
        rw [e2] at this; exact this) (by omega) cn1
    refine ⟨s', μ', M', ?_, I3, K3, fr3, kf3, ag3, ?_, ?_, bGrow_trans gr1 gr3, ⟨by rw [gd3]; exact gd1, by rw [gl3]; exact gl1, by rw [ge3]; exact ge1, by rw [gc3]; exact gc1, by rw [gb3]; exact gb1, by omega⟩, h333, ?_, dk3, dg3, ?_, cn3, by rw [f373]; exact f371, by rw [f383]; exact f381⟩
    · rw [← e1]
      conv => lhs; rw [m_ext2]
      have i23 : μ.2 23 (40 * dl s i + s_nd S (dl s i) p) = hz_n (s_mo S (dl s i) p) := by
        rw [ag.2.1 23 (by decide) (by decide) (by decide), I.1.1 23 (by decide) (by decide)]; exact hN.2.2.2.2.2.2.2.2.2.2.1 (Or.inl ho)
      have x2 : hz_n 1 + hz_n ((u + k : Nat) : Int) = hz_n ((u + k + 1 : Nat) : Int) := by rw [zn_add]; congr 1; omega
      have x3 : hz_n (nc : Int) + hz_n 2 + hz_n (h : Int) + hz_n ((u + k : Nat) : Int) - hz_n (u : Int) = hz_n ((nc + 2 + (h + k) : Nat) : Int) := by rw [zn_add, zn_add, zn_add, zn_sub]; congr 1; omega
      have ch := kid.2.2.2.2 μ (by rw [ag.2.1 21 (by decide) (by decide) (by decide)]; exact I.1.1 21 (by decide) (by decide)) (by rw [ag.2.1 23 (by decide) (by decide) (by decide)]; exact I.1.1 23 (by decide) (by decide))
      rw [zt _ (by omega), zgd_t (by omega), Int.toNat_natCast, i23, zt (s_mo S (dl s i) p) (by omega), zt (u + k) (by omega), if_neg (by omega), x2, ch, Option.bind_some, q1, Option.bind_some, x3, zt (nc + 2 + (h + k)) (by omega), zgd_t (by omega), Int.toNat_natCast, zn1]
      rfl
    · intro b b1 b2; rw [re3 b b1 b2, mA1, re1.1 b b1 b2]
    · intro b hb
      rw [re3' b hb, mA2n _ _ _ _ _ (by omega)]
      rcases hb with e | e | e | e <;> subst e
      · exact re1.2.1.2
      · exact re1.2.1.1
      · exact re1.2.2.2.1
      · exact re1.2.2.2.2
    · intro q hq; rw [h333' q hq, mA2, if_pos rfl, if_neg (by omega), re1.2.2.1]
    · intro y hy
      rw [hM3 y (by omega)]
      exact if_neg (by omega)
