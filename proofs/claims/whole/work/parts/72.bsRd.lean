-- reading, from the start
def qRi (t : Nat → Nat) (ρ : zM) : Prop := ρ.1 0 = hz_n 0 ∧ ρ.1 1 = hz_n 0 ∧ ρ.1 2 = hz_n 0 ∧ ρ.1 3 = hz_n (-1) ∧ ρ.2 0 = qTx t ∧ (∀ v, v < 26 → ρ.2 3 v = hz_n (-1)) ∧ ∀ p, ρ.2 1 p = hz_n 0
def qDone (t : Nat → Nat) (F N m k' : Nat) (ρ' μ μ' : zM) : Prop := m ≤ 4 ∧ m + 1 < N ∧ k' ≤ N ∧ qW (qA ρ' μ') 14 (qLp t m) (m + 1) N 0 k' ∧ ρ'.2 1 (m + 1) = hz_n 0 ∧ ρ'.1 0 = hz_n m ∧ ρ'.2 0 = qTx t ∧ qFst (qA ρ' μ') 0 k' N (hz_n (-1)) (ρ'.1 3)
  ∧ μ'.1 13 = hz_n (1040 + k' : Nat) ∧ qMD (mS μ 11 (hz_n 0)) μ' ∧ μ'.2 19 26 = hz_n m ∧ ∀ k, k < m → μ'.2 20 (104 + k) = hz_n (t k - 97 : Nat) ∧ 97 ≤ t k ∧ t k ≤ 122
theorem qTop {t : Nat → Nat} {F N : Nat} {ρ μ : zM} (H : qHy t N F) (hρ : qRi t ρ) (h11 : μ.1 11 = hz_n N) (h16 : ∀ p, p < N → μ.2 16 p = hz_n (t p)) :
    ∃ a ρ', r_read N ρ = some (a, ρ') ∧ ((∃ j μ', j ≤ N ∧ a = hz_n (-1 - (j : Nat)) ∧ m_read μ F = some (a, μ') ∧ qMD (mS μ 11 (hz_n 0)) μ')
      ∨ ∃ m k' μ', qDone t F N m k' ρ' μ μ' ∧ m_read μ F = m_rd2 μ' F F (hz_n 1040) ∧ a = if (ρ'.1 3).toInt = -1 then hz_n m else hz_n (-100) - ρ'.1 3) := by
  have hN := H.2.1
  have hF := H.2.2
  obtain ⟨r0, r1, r2, r3, r4, r5, r6⟩ := hρ
  generalize hμs : mS (mA (mS (mS μ 11 (hz_n 0)) 13 (hz_n 1040)) 19 26 (hz_n 0)) 14 (hz_n 0) = μs
  have e14 : μs.1 14 = hz_n ((0 : Nat) : Int) := by rw [← hμs]; rfl
  obtain ⟨p1, p2, p3, p4⟩ := qpush (μ := μs) (w := 0) (x := hz_n 1) (y := hz_n 0) (d := hz_n 0) (by omega) e14
  have hmr : m_read μ F = qR F N (m_push μs (hz_n 1) (hz_n 0) (hz_n 0)) 0 F := by
    unfold m_read qR; rw [h11, hμs]; rfl
  generalize m_push μs (hz_n 1) (hz_n 0) (hz_n 0) = μ1 at *
  have d1 : qMD (mS μ 11 (hz_n 0)) μ1 := by
    refine ⟨fun n h1 h2 => ?_, fun a ha => ?_, fun x hx => ?_, fun x hx => ?_, fun a x h1 h2 h4 => ?_⟩
    · rw [p1.1 n h2, ← hμs, mS1, if_neg h2, mA1, mS1, if_neg h1]
    · rw [p1.2.2.1 a (by omega), ← hμs, mS2, mA2n _ _ _ _ _ (by omega)]; rfl
    · rw [p1.2.2.1 19 (by omega), ← hμs, mS2, mA2, if_pos rfl, if_neg hx]; rfl
    · rw [p1.2.2.1 20 (by omega), ← hμs, mS2, mA2n _ _ _ _ _ (by decide)]; rfl
    · rw [p1.2.2.1 a (by omega), ← hμs, mS2, mA2n _ _ _ _ _ (by omega)]; rfl
  have h0 : qPar t F N 0 ρ μ1 μ1 := by
    refine ⟨⟨r1, r2, r4, fun v hv => r5 v hv, fun p _ => r6 p, by omega⟩, ⟨?_, p1.2.1, fun p hp => ?_⟩, r0, r3, by omega, by omega, qMD_r _, p2, ?_, fun k hk => by omega, fun f => rfl⟩
    · rw [p1.1 13 (by decide), ← hμs]; rfl
    · rw [p1.2.2.1 16 (by omega), ← hμs, mS2, mA2n _ _ _ _ _ (by decide)]; exact h16 p hp
    · rw [p1.2.2.1 19 (by omega), ← hμs, mS2, mA2, if_pos rfl, if_pos rfl]; rfl
  obtain ⟨ρ1, e1, oc⟩ := qParL H 4 0 1 ρ μ1 (by omega) h0
  unfold r_read
  have e1' : r_rp N 6 ρ = some ρ1 := e1
  rw [e1', Option.bind_some, hmr]
  rcases oc with ⟨b1, b2, j, j1, j2, μ2, m1, m2⟩ | ⟨m, μ2, hm, hmN, hR, hM, c0, c3, cD, c25, c27, c19, c20, cC⟩
  · have bad : qBad t ρ1 := ⟨b1, b2⟩
    rw [qrp_bad bad, Option.bind_some]
    dsimp only
    rw [b1, zt1, if_neg (by omega), j2, zn_sub]
    refine ⟨_, _, rfl, .inl ⟨j, μ2, j1, rfl, ?_, qMD_t d1 m1⟩⟩
    have : qR F N μ1 0 F = qR F N μ1 0 ((F - (N + 1)) + (N + 1)) := congrArg _ (by omega)
    rw [this, m2]
  · have hF1 : ∀ f, qR F N μ1 0 (f + (m + 1)) = qR F N μ2 (m + 1) f := cC
    obtain ⟨x, ρ', e2, oc⟩ := qPart_of H (Nat.le_refl _) (qClaims H 14 (Nat.le_refl _)) (m + 1) 0 0 0 (qLp t m) ρ1 μ2 (.inl rfl) (by omega) (by omega) (qLp_B (by omega)) hR hM c25 c27
    have e2' : r_readPart N 15 ρ1 (hz_n 0) (hz_n 1) = some (x, ρ') := e2
    rw [e2', Option.bind_some]
    dsimp only
    rcases oc with ⟨b1, b2, j, j1, j2, j3, μ3, m1, m2⟩ | ⟨j, k', μ3, s1, s2, pre, q1, q2, q3, q4⟩
    · rw [b1, zt1, if_neg (by omega), j3, zn_sub]
      refine ⟨_, _, rfl, .inl ⟨j, μ3, j2, rfl, ?_, qMD_t d1 (qMD_t cD (qMD_F m1))⟩⟩
      have : qR F N μ1 0 F = qR F N μ1 0 (((F - (m + 1) - (N + 1 - (m + 1))) + (N + 1 - (m + 1))) + (m + 1)) := congrArg _ (by omega)
      rw [this, hF1, m2]
    · obtain ⟨a1, a2, a3, a4, a5, a6, a7⟩ := pre
      have hj := s1.2.2.2.2.2
      have nx : qNx ρ1 0 (m + 1) = ρ1 := by unfold qNx; rw [if_pos rfl]
      rw [nx] at a4 a7
      have hC : ∀ f, qR F N μ1 0 (f + j) = qR F N μ3 j f := fun f => by
        have : f + j = (f + (j - (m + 1))) + (m + 1) := by omega
        rw [this, hF1, a6]
      rw [s1.2.1, zti0, if_pos rfl, s1.1, zt N (by omega), zt j (by omega)]
      by_cases hjN : j < N
      · rw [if_neg (by omega), zn_sub]
        refine ⟨_, _, rfl, .inl ⟨j, μ3, by omega, rfl, ?_, qMD_t d1 (qMD_t cD (qMD_F a5))⟩⟩
        have : qR F N μ1 0 F = qR F N μ1 0 (((F - j - 1) + 1) + j) := congrArg _ (by omega)
        rw [this, hC]
        unfold qR
        rw [m_rd1, zt N (by omega), zt j (by omega), if_neg (by omega), zgd_t (by omega)]
        unfold m_take
        rw [s2.2.1, zt 0 (by omega), if_pos (by omega), Option.bind_some]
        dsimp only
        rw [zti0, if_pos rfl, zn_sub]
      · have : j = N := by omega
        subst this
        rw [if_pos (by omega)]
        have hr3 : (ρ1.1 3) = hz_n (-1) := c3
        rw [hr3] at a7
        have e3 : qR F j μ1 0 F = m_rd2 μ3 F F (hz_n 1040) := by
          have : F = ((F - j - 1) + 1) + j := by omega
          have h1 : qR F j μ1 0 F = qR F j μ3 j ((F - j - 1) + 1) := by rw [← hC, ← this]
          rw [h1]
          unfold qR
          rw [m_rd1, zt j (by omega), if_pos (by omega), s2.2.1, zt 0 (by omega), if_pos (by omega)]
        have hrc : ρ'.1 0 = hz_n m := by rw [a4.1]; exact c0
        rw [hrc, e3]
        refine ⟨if (ρ'.1 3).toInt = -1 then hz_n m else hz_n (-100) - ρ'.1 3, ρ', ?_, .inr ⟨m, k', μ3, ⟨hm, by omega, by omega, q3, q4, hrc, s1.2.2.1, a7, s2.1, qMD_t d1 (qMD_t cD (qMD_F a5)), ?_, fun k hk => ?_⟩, rfl, rfl⟩⟩
        · by_cases hs : (ρ'.1 3).toInt = -1
          · rw [if_pos hs, if_pos hs]
          · rw [if_neg hs, if_neg hs]
        · rw [a5.2.1 19 (by omega)]; exact c19
        · rw [a5.2.1 20 (by omega)]; exact c20 k hk

-- behind: the reference finds the end of a part and each of its parts
def qLk (μ : zM) (A : Nat → Nat → Int32) (b K : Nat) : Prop := b + K ≤ 1080 ∧ ∀ x, x < K → μ.2 21 (b + x) = A 3 x ∧ μ.2 23 (b + x) = A 5 x
-- so many parts below
def qBl (A : Nat → Nat → Int32) (x m : Nat) : Prop := m ≤ 5 ∧ ((m = 2 ∧ (A 3 x = hz_n 5 ∨ A 3 x = hz_n 7 ∨ A 3 x = hz_n 10)) ∨ (m = 3 ∧ (A 3 x = hz_n 8 ∨ A 3 x = hz_n 9)) ∨ (1 ≤ m ∧ A 3 x = hz_n 6 ∧ A 5 x = hz_n (m - 1 : Nat)) ∨ (m = 0 ∧ (A 3 x = hz_n 1 ∨ A 3 x = hz_n 2 ∨ A 3 x = hz_n 3 ∨ A 3 x = hz_n 4)))
theorem qbelow {μ : zM} {A : Nat → Nat → Int32} {b K x m : Nat} (h : qLk μ A b K) (hx : x < K) (hb : qBl A x m) : m_below μ (b + x) = hz_n m := by
  obtain ⟨h1, h2⟩ := h.2 x hx
  unfold m_below
  rw [h1, h2]
  have z : ∀ o : Int, -100 ≤ o ∧ o ≤ 100 → (hz_n o).toInt = o := fun o ho => zn_ti (by omega)
  rcases hb with ⟨h5, ⟨e, h | h | h⟩ | ⟨e, h | h⟩ | ⟨e, h, h'⟩ | ⟨e, h | h | h | h⟩⟩
  · rw [h, z 5 (by omega), if_pos (by omega), e]; rfl
  · rw [h, z 7 (by omega), if_pos (by omega), e]; rfl
  · rw [h, z 10 (by omega), if_pos (by omega), e]; rfl
  · rw [h, z 8 (by omega), if_neg (by omega), if_pos (by omega), e]; rfl
  · rw [h, z 9 (by omega), if_neg (by omega), if_pos (by omega), e]; rfl
  · rw [h, z 6 (by omega), if_neg (by omega), if_neg (by omega), if_pos (by omega), h', zn_add]; congr 1; omega
  · rw [h, z 1 (by omega), if_neg (by omega), if_neg (by omega), if_neg (by omega), e]; rfl
  · rw [h, z 2 (by omega), if_neg (by omega), if_neg (by omega), if_neg (by omega), e]; rfl
  · rw [h, z 3 (by omega), if_neg (by omega), if_neg (by omega), if_neg (by omega), e]; rfl
  · rw [h, z 4 (by omega), if_neg (by omega), if_neg (by omega), if_neg (by omega), e]; rfl
theorem qbeh1 {μ : zM} {A : Nat → Nat → Int32} {b K x m : Nat} (h : qLk μ A b K) (hx : x < K) (hb : qBl A x m) (f a : Nat) (ha : a ≤ 1000000) : m_beh μ (f + 1) (hz_n (a + 1 : Nat)) (hz_n (b + x : Nat)) = m_beh μ f (hz_n (a + m : Nat)) (hz_n (b + (x + 1) : Nat)) := by
  have hk := h.1
  have hm := hb.1
  rw [m_beh, zt (a + 1) (by omega), if_pos (by omega), zt (b + x) (by omega), if_pos (by omega), Int.toNat_natCast, qbelow h hx hb, zn1, zn_sub, zn_add]
  congr 2; omega
theorem qbeh0 {μ : zM} {f x : Nat} : m_beh μ (f + 1) (hz_n (0 : Nat)) (hz_n (x : Nat)) = some (hz_n x) := by
  rw [m_beh, zt 0 (by omega), if_neg (by omega)]
def qBh (μ : zM) (b k k' n a : Nat) : Prop := ∀ f, m_beh μ (f + (k' - k)) (hz_n (a + n : Nat)) (hz_n (b + k : Nat)) = m_beh μ f (hz_n (a : Nat)) (hz_n (b + k' : Nat))
theorem qPs_bh {μ : zM} {W : Nat → Nat → Nat → Nat → Prop} {A : Nat → Nat → Int32} {b i k M : Nat} (hW : ∀ i j c d, W i j c d → i < j ∧ c < d) : ∀ {m q j k' : Nat}, (∀ i j c d a, d ≤ k' → a ≤ M → W i j c d → qBh μ b c d 1 a) → qPs W A i k m q j k' → ∀ a, a + m ≤ M → qBh μ b k k' m a
  | 0, q, j, k', _, h => by
    obtain ⟨_, _, h⟩ := h
    subst h
    intro a _ f
    rw [Nat.sub_self]; rfl
  | m + 1, q, j, k', hc, h => by
    obtain ⟨q', k1, h1, _, h3⟩ := h
    have l1 := qPs_lt hW h1
    have l3 := hW _ _ _ _ h3
    intro a ha f
    have i1 := qPs_bh hW (fun i j c d a hd ha => hc i j c d a (by omega) ha) h1 (a + 1) (by omega) (f + (k' - k1))
    have i2 := hc _ _ _ _ a (Nat.le_refl _) (by omega) h3 f
    have e1 : f + (k' - k) = f + (k' - k1) + (k1 - k) := by omega
    have e2 : a + (m + 1) = a + 1 + m := by omega
    rw [e1, e2, i1, i2]
theorem qAtom_bl {A : Nat → Nat → Int32} {i k : Nat} {sc : Nat → Option Nat} (h : qAtom A i k sc) : qBl A k 0 := by
  refine ⟨by omega, .inr (.inr (.inr ⟨rfl, ?_⟩))⟩
  rcases h with ⟨v, _, h, _⟩ | ⟨v, _, h, _⟩ | ⟨v, _, h, _⟩ | h
  · exact .inl h.2.1
  · exact .inr (.inl h.2.1)
  · exact .inr (.inr (.inl h.2.1))
  · exact .inr (.inr (.inr h.2.1))
theorem qKind_bl {A : Nat → Nat → Int32} {i k c o m e : Nat} (h : qKind A k c o m e) (hn : qN A i k c o) : qBl A k m := by
  obtain ⟨_, h3, _⟩ := hn
  rcases h with ⟨_, ho, hm, _⟩ | ⟨_, ho, hm, _⟩ | ⟨_, ho, hm, _⟩ | ⟨_, ho, h2, h5, _, _, ha⟩
  · subst ho; exact ⟨by omega, .inl ⟨hm, .inl h3⟩⟩
  · subst ho; exact ⟨by omega, .inl ⟨hm, .inr (.inl h3)⟩⟩
  · subst ho; exact ⟨by omega, .inr (.inl ⟨hm, .inl h3⟩)⟩
  · subst ho; exact ⟨by omega, .inr (.inr (.inl ⟨by omega, h3, ha⟩))⟩
theorem qW_bh {μ : zM} {A : Nat → Nat → Int32} {b K : Nat} (h : qLk μ A b K) : ∀ {g : Nat} {sc : Nat → Option Nat} {i j k k' : Nat} (a : Nat), k' ≤ K → a + 10 * g ≤ 1000000 → qW A g sc i j k k' → qBh μ b k k' 1 a
  | 0, sc, i, j, k, k', a, hK, ha, hw => by
    obtain ⟨_, h2, h3⟩ := hw
    subst h2
    intro f
    have e : f + (k + 1 - k) = f + 1 := by omega
    rw [e, qbeh1 h (by omega) (qAtom_bl h3) f a (by omega)]; rfl
  | g + 1, sc, i, j, k, k', a, hK, ha, hw => by
    have lt : ∀ (sc : Nat → Option Nat) (a b c d : Nat), qW A g sc a b c d → a < b ∧ c < d := fun sc a b c d h => qW_lt h
    have ih : ∀ (sc : Nat → Option Nat) (i j c d a : Nat), d ≤ k' → a ≤ 1000000 - 10 * g → qW A g sc i j c d → qBh μ b c d 1 a := fun sc i j c d a hd ha hw => qW_bh h a (by omega) (by omega) hw
    have l0 := qW_lt hw
    rcases hw with ⟨_, h2, h3⟩ | ⟨c, o, m, e, q, j', h1, h2, h3, h4, h5⟩ | ⟨v, u, q, j2, k2, hv, hu, hn, h4, h5, h3, h6, h7, h8, h9, hz⟩ | ⟨v, q, hv, hn, h4, h5, h3, hz⟩
    · subst h2
      intro f
      have e : f + (k + 1 - k) = f + 1 := by omega
      rw [e, qbeh1 h (by omega) (qAtom_bl h3) f a (by omega)]; rfl
    · have hb := qKind_bl h1 h2
      have hm := hb.1
      have hp := qPs_bh (lt sc) (ih sc) h3 a (by omega)
      intro f
      have e : f + (k' - k) = f + (k' - (k + 1)) + 1 := by omega
      rw [e, qbeh1 h (by omega) hb _ a (by omega), hp f]
    · have hb : qBl A k 3 := ⟨by omega, .inr (.inl ⟨rfl, .inr hn.2.1⟩)⟩
      have l3 := qPs_lt (lt sc) h3
      have l9 := lt _ _ _ _ _ h9
      have hp := qPs_bh (lt sc) (fun i j c d a hd => ih sc i j c d a (by omega)) h3 (a + 1) (by omega)
      have h9' := ih _ _ _ _ _ a (Nat.le_refl _) (by omega) h9
      intro f
      have e : f + (k' - k) = f + (k' - k2) + (k2 - (k + 1)) + 1 := by omega
      rw [e, qbeh1 h (by omega) hb _ a (by omega), hp, h9' f]
    · have hb : qBl A k 2 := ⟨by omega, .inl ⟨rfl, .inr (.inr hn.2.1)⟩⟩
      have hp := qPs_bh (lt _) (ih _) h3 a (by omega)
      intro f
      have e : f + (k' - k) = f + (k' - (k + 1)) + 1 := by omega
      rw [e, qbeh1 h (by omega) hb _ a (by omega), hp f]
-- what lies behind a part
theorem qW_be {μ : zM} {A : Nat → Nat → Int32} {b K F g : Nat} {sc : Nat → Option Nat} {i j k k' : Nat} (h : qLk μ A b K) (hK : k' ≤ K) (hg : g ≤ 14) (hk : k' - k < F) (hw : qW A g sc i j k k') : m_beh μ F (hz_n 1) (hz_n (b + k : Nat)) = some (hz_n (b + k' : Nat)) := by
  have := qW_bh h 0 hK (by omega) hw (F - (k' - k))
  have e : F - (k' - k) + (k' - k) = F := by omega
  rw [e] at this
  have e1 : hz_n 1 = hz_n (0 + 1 : Nat) := rfl
  have e2 : F - (k' - k) = (F - (k' - k) - 1) + 1 := by omega
  rw [e1, this, e2, qbeh0]

-- the parts of a whole, by their numbers
theorem qPs_list {W : Nat → Nat → Nat → Nat → Prop} {A : Nat → Nat → Int32} {i k : Nat} : ∀ {m q j k' : Nat}, qPs W A i k m q j k' → ∃ qs ks : Nat → Nat, qs 0 = i ∧ ks 0 = k ∧ qs m = j ∧ ks m = k' ∧ (0 < m → q = qs (m - 1))
    ∧ (∀ n, n < m → W (qs n) (qs (n + 1)) (ks n) (ks (n + 1))) ∧ ∀ n, n + 1 < m → A 1 (qs n) = hz_n (qs (n + 1))
  | 0, q, j, k', h => by
    obtain ⟨_, h2, h3⟩ := h
    exact ⟨fun _ => i, fun _ => k, rfl, rfl, h2.symm, h3.symm, fun h => by omega, fun n hn => by omega, fun n hn => by omega⟩
  | m + 1, q, j, k', h => by
    obtain ⟨q', k1, h1, h2, h3⟩ := h
    obtain ⟨qs, ks, a1, a2, a3, a4, a5, a6, a7⟩ := qPs_list h1
    refine ⟨fun n => if n ≤ m then qs n else j, fun n => if n ≤ m then ks n else k', ?_, ?_, ?_, ?_, fun _ => ?_, fun n hn => ?_, fun n hn => ?_⟩
    · show (if 0 ≤ m then qs 0 else j) = i; rw [if_pos (by omega), a1]
    · show (if 0 ≤ m then ks 0 else k') = k; rw [if_pos (by omega), a2]
    · show (if m + 1 ≤ m then _ else j) = j; rw [if_neg (by omega)]
    · show (if m + 1 ≤ m then _ else k') = k'; rw [if_neg (by omega)]
    · show q = if m + 1 - 1 ≤ m then qs (m + 1 - 1) else j
      rw [if_pos (by omega), Nat.add_sub_cancel, a3]
    · show W (if n ≤ m then qs n else j) (if n + 1 ≤ m then qs (n + 1) else j) (if n ≤ m then ks n else k') (if n + 1 ≤ m then ks (n + 1) else k')
      have q1 : n ≤ m := by omega
      rw [if_pos q1, if_pos q1]
      by_cases hn' : n < m
      · have q2 : n + 1 ≤ m := by omega
        rw [if_pos q2, if_pos q2]; exact a6 n hn'
      · have : n = m := by omega
        subst this
        have q2 : ¬ n + 1 ≤ n := by omega
        rw [if_neg q2, if_neg q2, a3, a4]; exact h3
    · show A 1 (if n ≤ m then qs n else j) = hz_n ((if n + 1 ≤ m then qs (n + 1) else j : Nat) : Int)
      rw [if_pos (by omega), if_pos (by omega)]
      by_cases hn' : n + 1 < m
      · exact a7 n hn'
      · rcases h2 with h2 | h2
        · omega
        · have e := a5 (by omega)
          have en : m - 1 = n := by omega
          rw [en] at e
          rw [← e, h2, ← a3]
          congr 2; congr 1; omega
theorem qmono {ks : Nat → Nat} {m : Nat} (h : ∀ n, n < m → ks n ≤ ks (n + 1)) : ∀ {d a : Nat}, a + d ≤ m → ks a ≤ ks (a + d)
  | 0, a, _ => Nat.le_refl _
  | d + 1, a, hd => Nat.le_trans (qmono h (by omega)) (h (a + d) (by omega))
theorem qmono' {ks : Nat → Nat} {m a b : Nat} (h : ∀ n, n < m → ks n ≤ ks (n + 1)) (hab : a ≤ b) (hb : b ≤ m) : ks a ≤ ks b := by
  have := qmono h (d := b - a) (a := a) (by omega)
  have e : a + (b - a) = b := by omega
  rw [e] at this; exact this
theorem qfind {ks : Nat → Nat} {x : Nat} : ∀ {m : Nat}, ks 0 ≤ x → x < ks m → ∃ n, n < m ∧ ks n ≤ x ∧ x < ks (n + 1)
  | 0, h1, h2 => by omega
  | m + 1, h1, h2 => by
    by_cases h : ks m ≤ x
    · exact ⟨m, by omega, h, h2⟩
    · obtain ⟨n, a, b, c⟩ := qfind (m := m) h1 (by omega)
      exact ⟨n, by omega, b, c⟩
-- a whole with its parts: how many, where each begins and ends, its nodes, its scope
def qKd (A : Nat → Nat → Int32) (g i j k k' m : Nat) (qs js ks : Nat → Nat) (scs : Nat → Nat → Option Nat) : Prop :=
  qBl A k m ∧ 2 ≤ m ∧ ks 0 = k + 1 ∧ ks m = k' ∧ (∀ n, n < m → qW A g (scs n) (qs n) (js n) (ks n) (ks (n + 1)) ∧ i < qs n ∧ js n ≤ j ∧ A 1 (qs n) = hz_n (if n + 1 < m then qs (n + 1) else 0 : Nat)) ∧ ∀ n, n + 1 < m → js n ≤ qs (n + 1)
def qSp (A : Nat → Nat → Int32) (sc : Nat → Option Nat) (i j k m : Nat) (qs js : Nat → Nat) (scs : Nat → Nat → Option Nat) : Prop :=
  (∃ c o e, qKind A k c o m e ∧ qN A i k c o ∧ qs 0 = i + 1 ∧ (∀ n, scs n = sc))
  ∨ (∃ v u : Nat, v < 26 ∧ u < 26 ∧ qN A i k 47 9 ∧ A 4 k = hz_n v ∧ A 5 k = hz_n u ∧ m = 3 ∧ qs 0 = i + 1 ∧ scs 0 = sc ∧ scs 1 = sc ∧ qs 2 = js 1 + 2 ∧ scs 2 = qX (qX sc v (js 1)) u (js 1 + 1))
  ∨ (∃ v : Nat, v < 26 ∧ qN A i k 36 10 ∧ A 4 k = hz_n v ∧ m = 2 ∧ qs 0 = i + 2 ∧ (∀ n, scs n = qX sc v (i + 1)))
theorem qW_kd {A : Nat → Nat → Int32} {g : Nat} {sc : Nat → Option Nat} {i j k k' : Nat} (hw : qW A (g + 1) sc i j k k') : (j = i + 1 ∧ k' = k + 1 ∧ qAtom A i k sc) ∨ ∃ m qs js ks scs, qKd A g i j k k' m qs js ks scs ∧ qSp A sc i j k m qs js scs := by
  have lt : ∀ (sc : Nat → Option Nat) (a b c d : Nat), qW A g sc a b c d → a < b ∧ c < d := fun sc a b c d h => qW_lt h
  rcases hw with h | ⟨c, o, m, e, q, j', h1, h2, h3, h4, h5⟩ | ⟨v, u, q, j2, k2, hv, hu, hn, h4, h5, h3, h6, h7, h8, h9, hz⟩ | ⟨v, q, hv, hn, h4, h5, h3, hz⟩
  · exact .inl h
  · obtain ⟨qs, ks, a1, a2, a3, a4, a5, a6, a7⟩ := qPs_list h3
    have hm : 2 ≤ m := by unfold qKind at h1; omega
    have mo : ∀ n, n < m → qs n ≤ qs (n + 1) := fun n hn => by have := lt _ _ _ _ _ (a6 n hn); omega
    refine .inr ⟨m, qs, fun n => qs (n + 1), ks, fun _ => sc, ⟨qKind_bl h1 h2, hm, a2, a4, fun n hn => ⟨a6 n hn, ?_, ?_, ?_⟩, fun n hn => Nat.le_refl _⟩, .inl ⟨c, o, e, h1, h2, a1, fun _ => rfl⟩⟩
    · have := qmono' mo (Nat.zero_le n) (by omega); omega
    · show qs (n + 1) ≤ j; have := qmono' mo (a := n + 1) (b := m) (by omega) (by omega); omega
    · by_cases hn' : n + 1 < m
      · rw [if_pos hn']; exact a7 n hn'
      · rw [if_neg hn']
        have e : n = m - 1 := by omega
        rw [e, ← a5 (by omega)]; exact h4
  · obtain ⟨qs, ks, a1, a2, a3, a4, a5, a6, a7⟩ := qPs_list h3
    have l0 : qs 0 < qs 1 ∧ ks 0 < ks 1 := lt _ _ _ _ _ (a6 0 (by omega))
    have l1 : qs 1 < qs 2 ∧ ks 1 < ks 2 := lt _ _ _ _ _ (a6 1 (by omega))
    have l9 := lt _ _ _ _ _ h9
    refine .inr ⟨3, fun n => if n < 2 then qs n else j2 + 2, fun n => if n < 2 then qs (n + 1) else j, fun n => if n < 3 then ks n else k', fun n => if n < 2 then sc else qX (qX sc v j2) u (j2 + 1), ⟨⟨by omega, .inr (.inl ⟨rfl, .inr hn.2.1⟩)⟩, by omega, a2, rfl, fun n hn => ?_, fun n hn => ?_⟩, .inr (.inl ⟨v, u, hv, hu, hn, h4, h5, rfl, a1, rfl, rfl, ?_, ?_⟩)⟩
    · have : n = 0 ∨ n = 1 ∨ n = 2 := by omega
      rcases this with e | e | e
      · subst e; exact ⟨a6 0 (by omega), by show i < qs 0; omega, by show qs 1 ≤ j; omega, a7 0 (by omega)⟩
      · subst e
        refine ⟨a6 1 (by omega), by show i < qs 1; omega, by show qs 2 ≤ j; omega, ?_⟩
        have e := a5 (by omega)
        show A 1 (qs 1) = hz_n (j2 + 2 : Nat)
        rw [← h6, e]
      · subst e
        refine ⟨?_, by show i < j2 + 2; omega, Nat.le_refl _, hz⟩
        show qW A g _ (j2 + 2) j (ks 2) k'
        rw [a4]; exact h9
    · have : n = 0 ∨ n = 1 := by omega
      rcases this with e | e
      · subst e; exact Nat.le_refl _
      · subst e; show qs 2 ≤ j2 + 2; omega
    · show j2 + 2 = qs 2 + 2; rw [a3]
    · show qX (qX sc v j2) u (j2 + 1) = qX (qX sc v (qs 2)) u (qs 2 + 1); rw [a3]
  · obtain ⟨qs, ks, a1, a2, a3, a4, a5, a6, a7⟩ := qPs_list h3
    have l0 : qs 0 < qs 1 ∧ ks 0 < ks 1 := lt _ _ _ _ _ (a6 0 (by omega))
    have l1 : qs 1 < qs 2 ∧ ks 1 < ks 2 := lt _ _ _ _ _ (a6 1 (by omega))
    refine .inr ⟨2, qs, fun n => qs (n + 1), ks, fun _ => qX sc v (i + 1), ⟨⟨by omega, .inl ⟨rfl, .inr (.inr hn.2.1)⟩⟩, by omega, a2, a4, fun n hn => ⟨a6 n hn, ?_, ?_, ?_⟩, fun n hn => Nat.le_refl _⟩, .inr (.inr ⟨v, hv, hn, h4, rfl, a1, fun _ => rfl⟩)⟩
    · have : n = 0 ∨ n = 1 := by omega
      rcases this with e | e
      · subst e; omega
      · subst e; omega
    · have : n = 0 ∨ n = 1 := by omega
      rcases this with e | e
      · subst e; show qs 1 ≤ j; omega
      · subst e; show qs 2 ≤ j; omega
    · have : n = 0 ∨ n = 1 := by omega
      rcases this with e | e
      · subst e; exact a7 0 (by omega)
      · subst e
        have e := a5 (by omega)
        show A 1 (qs 1) = hz_n 0
        rw [← hz, e]
theorem qKd_mo {A : Nat → Nat → Int32} {g i j k k' m : Nat} {qs js ks : Nat → Nat} {scs : Nat → Nat → Option Nat} (h : qKd A g i j k k' m qs js ks scs) : ∀ n, n < m → ks n ≤ ks (n + 1) := fun n hn => by
  have := qW_lt (h.2.2.2.2.1 n hn).1; omega
-- each part is found
theorem qKd_sk {μ : zM} {A : Nat → Nat → Int32} {b K F g i j k k' m : Nat} {qs js ks : Nat → Nat} {scs : Nat → Nat → Option Nat} (hl : qLk μ A b K) (hK : k' ≤ K) (hg : g ≤ 14) (hF : K < F) (h : qKd A g i j k k' m qs js ks scs) : ∀ (r n : Nat), n + r ≤ m → m_skip μ F r (hz_n (b + ks n : Nat)) = some (hz_n (b + ks (n + r) : Nat))
  | 0, n, _ => rfl
  | r + 1, n, hn => by
    have h5 := h.2.2.2.2.1 n (by omega)
    have mo := qmono' (qKd_mo h) (a := n + 1) (b := m) (by omega) (by omega)
    have lt := qW_lt h5.1
    have e4 := h.2.2.2.1
    rw [m_skip, qW_be hl (by omega) hg (by omega) h5.1, Option.bind_some, qKd_sk hl hK hg hF h r (n + 1) (by omega)]
    congr 2; congr 2; congr 1; omega
theorem qKd_ch {μ : zM} {A : Nat → Nat → Int32} {b K F g i j k k' m n : Nat} {qs js ks : Nat → Nat} {scs : Nat → Nat → Option Nat} (hl : qLk μ A b K) (hK : k' ≤ K) (hg : g ≤ 14) (hF : K < F) (h : qKd A g i j k k' m qs js ks scs) (hn : n < m) : m_child μ F (hz_n (b + k : Nat)) (hz_n (n : Nat)) = some (hz_n (b + ks n : Nat)) := by
  have hm := h.1.1
  unfold m_child
  rw [zt n (by omega), zgd_t (by omega), Int.toNat_natCast, zn1]
  have := qKd_sk hl hK hg hF h n 0 (by omega)
  rw [h.2.2.1, Nat.zero_add] at this
  exact this
-- nodes nest
theorem qW_ne {μ : zM} {A : Nat → Nat → Int32} {b K F : Nat} (hl : qLk μ A b K) (hF : K < F) : ∀ {g : Nat} {sc : Nat → Option Nat} {i j k k' : Nat}, g ≤ 14 → k' ≤ K → qW A g sc i j k k' → ∀ y, k ≤ y → y < k' → ∃ z, z ≤ k' ∧ m_beh μ F (hz_n 1) (hz_n (b + y : Nat)) = some (hz_n (b + z : Nat))
  | 0, sc, i, j, k, k', hg, hK, hw, y, y1, y2 => by
    have l := qW_lt hw
    have e := hw.2.1
    have : y = k := by omega
    subst this
    exact ⟨k', Nat.le_refl _, qW_be hl hK hg (by omega) hw⟩
  | g + 1, sc, i, j, k, k', hg, hK, hw, y, y1, y2 => by
    by_cases hy : y = k
    · subst hy
      exact ⟨k', Nat.le_refl _, qW_be hl hK hg (by omega) hw⟩
    · rcases qW_kd hw with ⟨_, h, _⟩ | ⟨m, qs, js, ks, scs, h, _⟩
      · omega
      · obtain ⟨n, n1, n2, n3⟩ := qfind (ks := ks) (x := y) (m := m) (by rw [h.2.2.1]; omega) (by rw [h.2.2.2.1]; exact y2)
        have mo := qmono' (qKd_mo h) (a := n + 1) (b := m) (by omega) (by omega)
        have e4 := h.2.2.2.1
        obtain ⟨z, z1, z2⟩ := qW_ne hl hF (by omega) (by omega) (h.2.2.2.2.1 n n1).1 y n2 n3
        exact ⟨z, by omega, z2⟩

-- which names are bound
def qVd (μ : zM) (F x y e : Nat) : Prop := e ≤ 1 ∧ ∀ f, m_ib2 μ F (hz_n (1040 + x : Nat)) (f + 1) (hz_n (0 : Nat)) (hz_n (1040 + y : Nat)) = m_ib2 μ F (hz_n (1040 + x : Nat)) f (hz_n e) (hz_n (1040 + (y + 1) : Nat))
  ∧ m_ib2 μ F (hz_n (1040 + x : Nat)) (f + 1) (hz_n (1 : Nat)) (hz_n (1040 + y : Nat)) = m_ib2 μ F (hz_n (1040 + x : Nat)) f (hz_n (1 : Nat)) (hz_n (1040 + (y + 1) : Nat))
theorem qib_1 {μ : zM} {F x y z f : Nat} (hy : y < x) (hx : x < 40) (hb : m_beh μ F (hz_n 1) (hz_n (1040 + y : Nat)) = some (hz_n (1040 + z : Nat))) :
    m_ib2 μ F (hz_n (1040 + x : Nat)) (f + 1) (hz_n (1 : Nat)) (hz_n (1040 + y : Nat)) = m_ib2 μ F (hz_n (1040 + x : Nat)) f (hz_n (1 : Nat)) (hz_n (1040 + (y + 1) : Nat)) := by
  rw [m_ib2, zt (1040 + x) (by omega), zt (1040 + y) (by omega), if_neg (by omega), zgd_t (by omega), zgd_t (by omega), hb, Option.bind_some, zt 1 (by omega), if_pos (by omega), zn1]; rfl
theorem qib_0 {μ : zM} {F x y z f : Nat} (hy : y < x) (hx : x < 40) (hz : z ≤ 40) (hb : m_beh μ F (hz_n 1) (hz_n (1040 + y : Nat)) = some (hz_n (1040 + z : Nat))) :
    m_ib2 μ F (hz_n (1040 + x : Nat)) (f + 1) (hz_n (0 : Nat)) (hz_n (1040 + y : Nat)) = if z ≤ x then m_ib2 μ F (hz_n (1040 + x : Nat)) f (hz_n (0 : Nat)) (hz_n (1040 + (y + 1) : Nat))
     else if (μ.2 21 (1040 + y)).toInt = 10 then (if (μ.2 22 (1040 + y)).toInt = (μ.2 22 (1040 + x)).toInt then m_ib2 μ F (hz_n (1040 + x : Nat)) f (hz_n (1 : Nat)) (hz_n (1040 + (y + 1) : Nat)) else m_ib2 μ F (hz_n (1040 + x : Nat)) f (hz_n (0 : Nat)) (hz_n (1040 + (y + 1) : Nat)))
     else if (μ.2 21 (1040 + y)).toInt = 9 then (m_child μ F (hz_n (1040 + y : Nat)) (hz_n 2)).bind fun c => if ((1040 + x : Nat) : Int) < c.toInt then m_ib2 μ F (hz_n (1040 + x : Nat)) f (hz_n (0 : Nat)) (hz_n (1040 + (y + 1) : Nat)) else if (μ.2 22 (1040 + y)).toInt = (μ.2 22 (1040 + x)).toInt then m_ib2 μ F (hz_n (1040 + x : Nat)) f (hz_n (1 : Nat)) (hz_n (1040 + (y + 1) : Nat))
        else if (μ.2 23 (1040 + y)).toInt = (μ.2 22 (1040 + x)).toInt then m_ib2 μ F (hz_n (1040 + x : Nat)) f (hz_n (1 : Nat)) (hz_n (1040 + (y + 1) : Nat)) else m_ib2 μ F (hz_n (1040 + x : Nat)) f (hz_n (0 : Nat)) (hz_n (1040 + (y + 1) : Nat))
     else m_ib2 μ F (hz_n (1040 + x : Nat)) f (hz_n (0 : Nat)) (hz_n (1040 + (y + 1) : Nat)) := by
  rw [m_ib2, zt (1040 + x) (by omega), zt (1040 + y) (by omega), if_neg (by omega), zgd_t (by omega), zgd_t (by omega), hb, Option.bind_some, zt 0 (by omega), if_neg (by omega), zn1, zt (1040 + z) (by omega), Int.toNat_natCast, Int.toNat_natCast]
  by_cases h : z ≤ x
  · rw [if_pos (by omega), if_pos h]; rfl
  · rw [if_neg (by omega), if_neg h]; rfl
theorem qVd_out {μ : zM} {F x y z : Nat} (hy : y < x) (hx : x < 40) (hz : z ≤ x) (hb : m_beh μ F (hz_n 1) (hz_n (1040 + y : Nat)) = some (hz_n (1040 + z : Nat))) : qVd μ F x y 0 :=
  ⟨by omega, fun f => ⟨by rw [qib_0 hy hx (by omega) hb, if_pos hz], qib_1 hy hx hb⟩⟩
-- a name: what the class took down for it, what the reference finds
def qNm (μ : zM) (A : Nat → Nat → Int32) (F : Nat) (sc : Nat → Option Nat) (k x : Nat) : Prop := ∃ (v p : Nat) (sc' : Nat → Option Nat) (w : Nat → Nat), v < 26 ∧ p < 40 ∧ A 4 x = hz_n v ∧ A 6 x = hz_n p ∧ A 2 p = qsc sc' v ∧ qScB sc'
  ∧ (∀ y, k ≤ y → y < x → qVd μ F x y (w y)) ∧ (sc' v = none ↔ sc v = none ∧ ∀ y, k ≤ y → y < x → w y = 0)
theorem qAtom_nm {μ : zM} {A : Nat → Nat → Int32} {F i k : Nat} {sc : Nat → Option Nat} (hi : i < 40) (hs : qScB sc) (h : qAtom A i k sc) (h3 : A 3 k = hz_n 1) : qNm μ A F sc k k := by
  rcases h with ⟨v, v1, v2, v3, v4⟩ | ⟨v, _, h, _⟩ | ⟨v, _, h, _⟩ | h
  · exact ⟨v, i, sc, fun _ => 0, v1, hi, v3, v2.2.2, v4, hs, fun y h1 h2 => by omega, ⟨fun h => ⟨h, fun _ _ _ => rfl⟩, fun h => h.1⟩⟩
  · have := h.2.1; rw [h3] at this; have := zn_inj (by omega) (by omega) this; omega
  · have := h.2.1; rw [h3] at this; have := zn_inj (by omega) (by omega) this; omega
  · have := h.2.1; rw [h3] at this; have := zn_inj (by omega) (by omega) this; omega
theorem qX_none {sc : Nat → Option Nat} {v b u : Nat} : qX sc v b u = none ↔ sc u = none ∧ u ≠ v := by
  unfold qX
  by_cases h : u = v
  · rw [if_pos h]; exact ⟨fun e => (by cases e), fun e => absurd h e.2⟩
  · rw [if_neg h]; exact ⟨fun e => ⟨e, h⟩, fun e => e.1⟩
theorem qBl_no {A : Nat → Nat → Int32} {k m : Nat} (h : qBl A k m) (hm : 2 ≤ m) : A 3 k ≠ hz_n 1 := by
  intro e
  unfold qBl at h
  rw [e] at h
  have z : ∀ o : Int, 1 < o → o < 20 → hz_n 1 ≠ hz_n o := fun o h1 h2 h => by have := zn_inj (by omega) (by omega) h; omega
  rcases h with ⟨h5, ⟨e, h | h | h⟩ | ⟨e, h | h⟩ | ⟨e, h, h'⟩ | ⟨e, _⟩⟩
  · exact z 5 (by omega) (by omega) h
  · exact z 7 (by omega) (by omega) h
  · exact z 10 (by omega) (by omega) h
  · exact z 8 (by omega) (by omega) h
  · exact z 9 (by omega) (by omega) h
  · exact z 6 (by omega) (by omega) h
  · omega
-- what the whole itself says of a name in its part n
theorem qSp_vd {μ : zM} {A : Nat → Nat → Int32} {K F g i j k k' m n x v : Nat} {sc : Nat → Option Nat} {qs js ks : Nat → Nat} {scs : Nat → Nat → Option Nat} (hl : qLk μ A 1040 K) (h22 : ∀ x, x < K → μ.2 22 (1040 + x) = A 4 x) (hK : k' ≤ K) (hK4 : K ≤ 40) (hg : g + 1 ≤ 14) (hF : K < F)
    (hw : qW A (g + 1) sc i j k k') (h : qKd A g i j k k' m qs js ks scs) (hs : qSp A sc i j k m qs js scs) (hn : n < m) (h1 : ks n ≤ x) (h2 : x < ks (n + 1)) (hv : v < 26) (h4 : A 4 x = hz_n v) : ∃ e, qVd μ F x k e ∧ (scs n v = none ↔ sc v = none ∧ e = 0) := by
  have e0 := h.2.2.1
  have e4 := h.2.2.2.1
  have mo0 := qmono' (qKd_mo h) (a := 0) (b := n) (by omega) (by omega)
  have mo1 := qmono' (qKd_mo h) (a := n + 1) (b := m) (by omega) (by omega)
  have hb := qW_be (F := F) hl hK hg (by omega) hw
  have hxv : μ.2 22 (1040 + x) = hz_n v := by rw [h22 x (by omega), h4]
  have hvv : (hz_n (v : Int)).toInt = v := zt v (by omega)
  have q0 : ∀ f, _ := fun f => qib_0 (μ := μ) (F := F) (x := x) (y := k) (z := k') (f := f) (by omega) (by omega) (by omega) hb
  have q1 : ∀ f, _ := fun f => qib_1 (μ := μ) (F := F) (x := x) (y := k) (z := k') (f := f) (by omega) (by omega) hb
  have e3 : μ.2 21 (1040 + k) = A 3 k := (hl.2 k (by omega)).1
  have e5 : μ.2 23 (1040 + k) = A 5 k := (hl.2 k (by omega)).2
  have e2 : μ.2 22 (1040 + k) = A 4 k := h22 k (by omega)
  rcases hs with ⟨c, o, e, s1, s2, s3, s4⟩ | ⟨v', u', sv, su, s1, s2, s3, s4, s5, s6, s7, s8, s9⟩ | ⟨v', sv, s1, s2, s3, s4, s5⟩
  · refine ⟨0, ⟨by omega, fun f => ⟨?_, q1 f⟩⟩, by rw [s4 n]; exact ⟨fun h => ⟨h, rfl⟩, fun h => h.1⟩⟩
    have ho : o ≠ 9 ∧ o ≠ 10 ∧ o < 100 := by unfold qKind at s1; omega
    rw [q0 f, if_neg (by omega), e3, s2.2.1, zt o (by omega), if_neg (by omega), if_neg (by omega)]
  · subst s4
    have hc : m_child μ F (hz_n (1040 + k : Nat)) (hz_n 2) = some (hz_n (1040 + ks 2 : Nat)) := qKd_ch hl hK (by omega) hF h (n := 2) (by omega)
    have z9 : (hz_n ((9 : Nat) : Int)).toInt = 9 := zt 9 (by omega)
    have ml := qKd_mo h
    have m0 : ks 0 ≤ ks 1 := ml 0 (by omega)
    have m1 : ks 1 ≤ ks 2 := ml 1 (by omega)
    have m2 : ks 2 ≤ ks 3 := ml 2 (by omega)
    by_cases hn2 : n = 2
    · subst hn2
      have hx2 : ¬ ((1040 + x : Nat) : Int) < ((1040 + ks 2 : Nat) : Int) := by omega
      by_cases hvv' : v = v' ∨ v = u'
      · refine ⟨1, ⟨by omega, fun f => ⟨?_, q1 f⟩⟩, by rw [s9, qX_none, qX_none]; omega⟩
        rw [q0 f, if_neg (by omega), e3, s1.2.1, z9, if_neg (by omega), if_pos rfl, hc, Option.bind_some, zt (1040 + ks 2) (by omega), if_neg hx2, e2, s2, hxv, hvv, zt v' (by omega), e5, s3, zt u' (by omega)]
        by_cases hq : (v' : Int) = v
        · rw [if_pos hq]
        · rw [if_neg hq, if_pos (by omega)]
      · refine ⟨0, ⟨by omega, fun f => ⟨?_, q1 f⟩⟩, by rw [s9, qX_none, qX_none]; exact ⟨fun h => ⟨h.1.1, rfl⟩, fun h => ⟨⟨h.1, fun e => hvv' (.inl e)⟩, fun e => hvv' (.inr e)⟩⟩⟩
        rw [q0 f, if_neg (by omega), e3, s1.2.1, z9, if_neg (by omega), if_pos rfl, hc, Option.bind_some, zt (1040 + ks 2) (by omega), if_neg hx2, e2, s2, hxv, hvv, zt v' (by omega), e5, s3, zt u' (by omega), if_neg (by omega), if_neg (by omega)]
    · have mo2 := qmono' (qKd_mo h) (a := n + 1) (b := 2) (by omega) (by omega)
      have hx2 : ((1040 + x : Nat) : Int) < ((1040 + ks 2 : Nat) : Int) := by omega
      refine ⟨0, ⟨by omega, fun f => ⟨?_, q1 f⟩⟩, ?_⟩
      · rw [q0 f, if_neg (by omega), e3, s1.2.1, z9, if_neg (by omega), if_pos rfl, hc, Option.bind_some, zt (1040 + ks 2) (by omega), if_pos hx2]
      · have : n = 0 ∨ n = 1 := by omega
        rcases this with e | e
        · subst e; rw [s6]; exact ⟨fun h => ⟨h, rfl⟩, fun h => h.1⟩
        · subst e; rw [s7]; exact ⟨fun h => ⟨h, rfl⟩, fun h => h.1⟩
  · have z10 : (hz_n ((10 : Nat) : Int)).toInt = 10 := zt 10 (by omega)
    by_cases hvv' : v = v'
    · refine ⟨1, ⟨by omega, fun f => ⟨?_, q1 f⟩⟩, by rw [s5 n, qX_none]; omega⟩
      rw [q0 f, if_neg (by omega), e3, s1.2.1, z10, if_pos rfl, e2, s2, hxv, hvv, zt v' (by omega), if_pos (by omega)]
    · refine ⟨0, ⟨by omega, fun f => ⟨?_, q1 f⟩⟩, by rw [s5 n, qX_none]; exact ⟨fun h => ⟨h.1, rfl⟩, fun h => ⟨h.1, hvv'⟩⟩⟩
      rw [q0 f, if_neg (by omega), e3, s1.2.1, z10, if_pos rfl, e2, s2, hxv, hvv, zt v' (by omega), if_neg (by omega)]
theorem qSp_B {A : Nat → Nat → Int32} {g i j k k' m n : Nat} {sc : Nat → Option Nat} {qs js ks : Nat → Nat} {scs : Nat → Nat → Option Nat} (hj : j ≤ 40) (h : qKd A g i j k k' m qs js ks scs) (hs : qSp A sc i j k m qs js scs) (hn : n < m) (hB : qScB sc) : qScB (scs n) := by
  have h5 := h.2.2.2.2.1 n hn
  have lt := qW_lt h5.1
  rcases hs with ⟨c, o, e, s1, s2, s3, s4⟩ | ⟨v', u', sv, su, s1, s2, s3, s4, s5, s6, s7, s8, s9⟩ | ⟨v', sv, s1, s2, s3, s4, s5⟩
  · rw [s4 n]; exact hB
  · have : n = 0 ∨ n = 1 ∨ n = 2 := by omega
    rcases this with e | e | e
    · subst e; rw [s6]; exact hB
    · subst e; rw [s7]; exact hB
    · subst e; rw [s9]; exact qScB_X (qScB_X hB (by omega)) (by omega)
  · rw [s5 n]; exact qScB_X hB (by omega)
theorem qW_nm {μ : zM} {A : Nat → Nat → Int32} {K F : Nat} (hl : qLk μ A 1040 K) (h22 : ∀ x, x < K → μ.2 22 (1040 + x) = A 4 x) (hK4 : K ≤ 40) (hF : K < F) : ∀ {g : Nat} {sc : Nat → Option Nat} {i j k k' : Nat}, g ≤ 14 → k' ≤ K → j ≤ 40 → qScB sc → qW A g sc i j k k' → ∀ x, k ≤ x → x < k' → A 3 x = hz_n 1 → qNm μ A F sc k x
  | 0, sc, i, j, k, k', hg, hK, hj, hB, hw, x, x1, x2, x3 => by
    obtain ⟨a1, a2, a3⟩ := hw
    have : x = k := by omega
    subst this
    exact qAtom_nm (by omega) hB a3 x3
  | g + 1, sc, i, j, k, k', hg, hK, hj, hB, hw, x, x1, x2, x3 => by
    rcases qW_kd hw with ⟨a1, a2, a3⟩ | ⟨m, qs, js, ks, scs, h, hs⟩
    · have : x = k := by omega
      subst this
      exact qAtom_nm (by omega) hB a3 x3
    · have hxk : x ≠ k := by rintro rfl; exact qBl_no h.1 h.2.1 x3
      obtain ⟨n, n1, n2, n3⟩ := qfind (ks := ks) (x := x) (m := m) (by rw [h.2.2.1]; omega) (by rw [h.2.2.2.1]; exact x2)
      have mo0 := qmono' (qKd_mo h) (a := 0) (b := n) (by omega) (by omega)
      have mo := qmono' (qKd_mo h) (a := n + 1) (b := m) (by omega) (by omega)
      have e4 := h.2.2.2.1
      have e0 := h.2.2.1
      have h5 := h.2.2.2.2.1 n n1
      obtain ⟨v, p, sc', w, b1, b2, b3, b4, b5, b6, b7, b8⟩ := qW_nm hl h22 hK4 hF (by omega) (by omega) (by omega) (qSp_B hj h hs n1 hB) h5.1 x n2 n3 x3
      obtain ⟨e, c1, c2⟩ := qSp_vd hl h22 hK hK4 hg hF hw h hs n1 n2 n3 b1 b3
      refine ⟨v, p, sc', fun y => if y = k then e else if y < ks n then 0 else w y, b1, b2, b3, b4, b5, b6, fun y y1 y2 => ?_, ?_⟩
      · show qVd μ F x y (if y = k then e else if y < ks n then 0 else w y)
        by_cases hy : y = k
        · rw [if_pos hy, hy]; exact c1
        · rw [if_neg hy]
          by_cases hy2 : y < ks n
          · rw [if_pos hy2]
            obtain ⟨n', d1, d2, d3⟩ := qfind (ks := ks) (x := y) (m := n) (by omega) hy2
            have mo' := qmono' (qKd_mo h) (a := n' + 1) (b := n) (by omega) (by omega)
            obtain ⟨z, z1, z2⟩ := qW_ne hl hF (by omega) (by omega) (h.2.2.2.2.1 n' (by omega)).1 y d2 d3
            exact qVd_out y2 (by omega) (by omega) z2
          · rw [if_neg hy2]; exact b7 y (by omega) y2
      · rw [b8, c2]
        constructor
        · rintro ⟨⟨r1, r2⟩, r3⟩
          refine ⟨r1, fun y y1 y2 => ?_⟩
          show (if y = k then e else if y < ks n then 0 else w y) = 0
          by_cases hy : y = k
          · rw [if_pos hy, r2]
          · rw [if_neg hy]
            by_cases hy2 : y < ks n
            · rw [if_pos hy2]
            · rw [if_neg hy2]; exact r3 y (by omega) y2
        · rintro ⟨r1, r2⟩
          refine ⟨⟨r1, ?_⟩, fun y y1 y2 => ?_⟩
          · have := r2 k (Nat.le_refl _) (by omega)
            dsimp only at this
            rwa [if_pos rfl] at this
          · have := r2 y (by omega) y2
            dsimp only at this
            rwa [if_neg (by omega), if_neg (by omega)] at this

theorem qib2_1 {μ : zM} {F x : Nat} {w : Nat → Nat} (hx : x < 40) (h : ∀ y, y < x → qVd μ F x y (w y)) : ∀ (r y f : Nat), y + r = x → m_ib2 μ F (hz_n (1040 + x : Nat)) (f + 1 + r) (hz_n (1 : Nat)) (hz_n (1040 + y : Nat)) = some (hz_n (1 : Nat))
  | 0, y, f, hy => by
    have : y = x := by omega
    subst this
    rw [Nat.add_zero, m_ib2, zt (1040 + y) (by omega), if_pos (by omega)]
  | r + 1, y, f, hy => by
    have e : f + 1 + (r + 1) = (f + 1 + r) + 1 := by omega
    rw [e, ((h y (by omega)).2 _).2, qib2_1 hx h r (y + 1) f (by omega)]
theorem qib2_0 {μ : zM} {F x : Nat} {w : Nat → Nat} (hx : x < 40) (h : ∀ y, y < x → qVd μ F x y (w y)) : ∀ (r y f : Nat), y + r = x → ∃ e : Nat, e ≤ 1 ∧ m_ib2 μ F (hz_n (1040 + x : Nat)) (f + 1 + r) (hz_n (0 : Nat)) (hz_n (1040 + y : Nat)) = some (hz_n e) ∧ (e = 0 ↔ ∀ z, y ≤ z → z < x → w z = 0)
  | 0, y, f, hy => by
    have : y = x := by omega
    subst this
    refine ⟨0, by omega, ?_, ⟨fun _ z h1 h2 => by omega, fun _ => rfl⟩⟩
    rw [Nat.add_zero, m_ib2, zt (1040 + y) (by omega), if_pos (by omega)]
  | r + 1, y, f, hy => by
    have e : f + 1 + (r + 1) = (f + 1 + r) + 1 := by omega
    obtain ⟨v1, v2⟩ := h y (by omega)
    rw [e, (v2 _).1]
    by_cases hw : w y = 0
    · rw [hw]
      obtain ⟨e, e1, e2, e3⟩ := qib2_0 hx h r (y + 1) f (by omega)
      refine ⟨e, e1, e2, e3.trans ⟨fun q z h1 h2 => ?_, fun q z h1 h2 => q z (by omega) h2⟩⟩
      by_cases hz : z = y
      · rw [hz]; exact hw
      · exact q z (by omega) h2
    · have hw1 : w y = 1 := by omega
      rw [hw1]
      exact ⟨1, Nat.le_refl _, qib2_1 hx h r (y + 1) f (by omega), ⟨fun h => by omega, fun q => by have := q y (Nat.le_refl _) (by omega); omega⟩⟩
theorem qib1_1 {μ : zM} {F m : Nat} {X : Int32} (hm : m ≤ 4) (h19 : μ.2 19 26 = hz_n m) : ∀ (r k f : Nat), k + r = m → m_ib1 μ F X (f + 1 + r) (hz_n (1 : Nat)) (hz_n k) = m_ib2 μ F X F (hz_n (1 : Nat)) (hz_n 1040)
  | 0, k, f, hk => by
    rw [Nat.add_zero, m_ib1, h19, zt m (by omega), zt k (by omega), if_pos (by omega)]
  | r + 1, k, f, hk => by
    have e : f + 1 + (r + 1) = (f + 1 + r) + 1 := by omega
    rw [e, m_ib1, h19, zt m (by omega), zt k (by omega), if_neg (by omega), zt 1 (by omega), if_pos (by omega), zn1]
    exact qib1_1 hm h19 r (k + 1) f (by omega)
theorem qib1_0 {t : Nat → Nat} {μ : zM} {F m x v : Nat} (hm : m ≤ 4) (hx : x < 40) (hv : v < 26) (h19 : μ.2 19 26 = hz_n m) (h20 : ∀ k, k < m → μ.2 20 (104 + k) = hz_n (t k - 97 : Nat) ∧ 97 ≤ t k ∧ t k ≤ 122) (h22 : μ.2 22 (1040 + x) = hz_n v) : ∀ (r k f : Nat), k + r = m →
    ∃ e : Nat, e ≤ 1 ∧ m_ib1 μ F (hz_n (1040 + x : Nat)) (f + 1 + r) (hz_n (0 : Nat)) (hz_n k) = m_ib2 μ F (hz_n (1040 + x : Nat)) F (hz_n e) (hz_n 1040) ∧ (e = 0 ↔ ∀ z, k ≤ z → z < m → t z - 97 ≠ v)
  | 0, k, f, hk => by
    refine ⟨0, by omega, ?_, ⟨fun _ z h1 h2 => by omega, fun _ => rfl⟩⟩
    rw [Nat.add_zero, m_ib1, h19, zt m (by omega), zt k (by omega), if_pos (by omega)]
  | r + 1, k, f, hk => by
    have e : f + 1 + (r + 1) = (f + 1 + r) + 1 := by omega
    have e104 : hz_n 104 + hz_n k = hz_n (104 + k : Nat) := by rw [zn_add]; rfl
    obtain ⟨p1, p2, p3⟩ := h20 k (by omega)
    rw [e, m_ib1, h19, zt m (by omega), zt k (by omega), if_neg (by omega), zt 0 (by omega), if_neg (by omega), e104, zt (104 + k) (by omega), zgd_t (by omega), zt (1040 + x) (by omega), zgd_t (by omega), Int.toNat_natCast, Int.toNat_natCast, p1, h22, zt v (by omega), zt (t k - 97) (by omega), zn1]
    by_cases hq : t k - 97 = v
    · rw [if_pos (by omega)]
      exact ⟨1, Nat.le_refl _, qib1_1 hm h19 r (k + 1) f (by omega), ⟨fun h => by omega, fun q => absurd hq (q k (Nat.le_refl _) (by omega))⟩⟩
    · rw [if_neg (by omega)]
      obtain ⟨e, e1, e2, e3⟩ := qib1_0 hm hx hv h19 h20 h22 r (k + 1) f (by omega)
      refine ⟨e, e1, e2, e3.trans ⟨fun q z h1 h2 => ?_, fun q z h1 h2 => q z (by omega) h2⟩⟩
      by_cases hz : z = k
      · rw [hz]; exact hq
      · exact q z (by omega) h2
theorem qLp_none {t : Nat → Nat} {v : Nat} : ∀ {m : Nat}, qLp t m v = none ↔ ∀ z, z < m → t z - 97 ≠ v
  | 0 => ⟨fun _ z hz => by omega, fun _ => rfl⟩
  | m + 1 => by
    have ih := qLp_none (t := t) (v := v) (m := m)
    show (if t m - 97 = v then some m else qLp t m v) = none ↔ _
    by_cases h : t m - 97 = v
    · rw [if_pos h]; exact ⟨fun e => (by cases e), fun q => absurd h (q m (by omega))⟩
    · rw [if_neg h, ih]
      refine ⟨fun q z hz => ?_, fun q z hz => q z (by omega)⟩
      by_cases hz' : z = m
      · rw [hz']; exact h
      · exact q z (by omega)
theorem qLk_A {ρ μ : zM} {K : Nat} (hK : K ≤ 40) : qLk μ (qA ρ μ) 1040 K := ⟨by omega, fun x _ => ⟨rfl, rfl⟩⟩
theorem qBound {t : Nat → Nat} {F N m k' x : Nat} {ρ' μ μ' : zM} (hN : N ≤ 40) (hF : 100 ≤ F) (h : qDone t F N m k' ρ' μ μ') (hx : x < k') (h3 : qA ρ' μ' 3 x = hz_n 1) : ∃ e : Nat, e ≤ 1 ∧ m_isBound μ' F (hz_n (1040 + x : Nat)) = some (hz_n e) ∧ (e = 0 ↔ qSt (qA ρ' μ') x) := by
  obtain ⟨d1, d2, d3, d4, d5, d6, d7, d8, d9, d10, d11, d12⟩ := h
  obtain ⟨v, p, sc', w, b1, b2, b3, b4, b5, b6, b7, b8⟩ := qW_nm (F := F) (qLk_A (K := k') (by omega)) (fun x _ => rfl) (by omega) (by omega) (Nat.le_refl _) (Nat.le_refl _) hN (qLp_B (by omega)) d4 x (Nat.zero_le _) hx h3
  have hs : qSt (qA ρ' μ') x ↔ sc' v = none := by
    unfold qSt
    rw [b4, zt p (by omega), Int.toNat_natCast, b5]
    unfold qsc
    cases hq : sc' v with
    | none => exact ⟨fun _ => rfl, fun _ => ⟨h3, rfl⟩⟩
    | some b =>
      have := b6 v b hq
      refine ⟨fun e => ?_, fun e => by cases e⟩
      have := zn_inj (by omega) (by omega) e.2
      omega
  have b7' : ∀ y, y < x → qVd μ' F x y (w y) := fun y hy => b7 y (Nat.zero_le _) hy
  obtain ⟨e, e1, e2, e3⟩ := qib1_0 (F := F) d1 (by omega) b1 d11 d12 b3 m 0 (F - m - 1) (by omega)
  have ef : F - m - 1 + 1 + m = F := by omega
  rw [ef] at e2
  have e2' : m_isBound μ' F (hz_n (1040 + x : Nat)) = m_ib2 μ' F (hz_n (1040 + x : Nat)) F (hz_n e) (hz_n 1040) := e2
  rw [e2', hs, b8, qLp_none]
  have ef2 : F - x - 1 + 1 + x = F := by omega
  by_cases he : e = 0
  · subst he
    obtain ⟨e', q1, q2, q3⟩ := qib2_0 (by omega) b7' x 0 (F - x - 1) (by omega)
    rw [ef2] at q2
    refine ⟨e', q1, q2, q3.trans ⟨fun q => ⟨fun z hz => e3.1 rfl z (Nat.zero_le _) hz, fun y _ hy => q y (Nat.zero_le _) hy⟩, fun q z _ hz => q.2 z (Nat.zero_le _) hz⟩⟩
  · have : e = 1 := by omega
    subst this
    have q2 := qib2_1 (by omega) b7' x 0 (F - x - 1) (by omega)
    rw [ef2] at q2
    refine ⟨1, Nat.le_refl _, q2, ⟨fun h => by omega, fun q => ?_⟩⟩
    have := e3.2 (fun z _ hz => q.1 z hz)
    omega
theorem qrd2_no {F k' : Nat} {A : Nat → Nat → Int32} {μ' : zM} (hk : k' ≤ 40) (h13 : μ'.1 13 = hz_n (1040 + k' : Nat)) (hA : ∀ x, μ'.2 21 (1040 + x) = A 3 x) (hb : ∀ x, x < k' → A 3 x = hz_n 1 → ∃ e : Nat, e ≤ 1 ∧ m_isBound μ' F (hz_n (1040 + x : Nat)) = some (hz_n e) ∧ (e = 0 ↔ qSt A x)) :
    ∀ (r y f x : Nat), y + r = x → x ≤ k' → (∀ z, y ≤ z → z < x → ¬ qSt A z) → m_rd2 μ' F (f + r) (hz_n (1040 + y : Nat)) = m_rd2 μ' F f (hz_n (1040 + x : Nat))
  | 0, y, f, x, hy, _, _ => by
    have : y = x := by omega
    subst this; rfl
  | r + 1, y, f, x, hy, hx, hn => by
    have e : f + (r + 1) = (f + r) + 1 := by omega
    rw [e, m_rd2, h13, zt (1040 + k') (by omega), zt (1040 + y) (by omega), if_neg (by omega), zgd_t (by omega), Int.toNat_natCast, hA, zn1]
    have ih := qrd2_no hk h13 hA hb r (y + 1) f x (by omega) hx (fun z h1 h2 => hn z (by omega) h2)
    by_cases h3 : (A 3 y).toInt = 1
    · have h3' : A 3 y = hz_n 1 := by rw [← zn_of (A 3 y), h3]
      obtain ⟨e, e1, e2, e3⟩ := hb y (by omega) h3'
      have he : e ≠ 0 := fun h => hn y (Nat.le_refl _) (by omega) (e3.1 h)
      rw [if_pos h3, e2, Option.bind_some, zt e (by omega), if_neg (by omega)]
      exact ih
    · rw [if_neg h3]; exact ih
theorem qrd2 {t : Nat → Nat} {F N m k' : Nat} {ρ' μ μ' : zM} (hN : N ≤ 40) (hF : 100 ≤ F) (h : qDone t F N m k' ρ' μ μ') : (ρ'.1 3 = hz_n (-1) ∧ m_rd2 μ' F F (hz_n 1040) = some (hz_n 0, μ')) ∨ ∃ p : Nat, p < N ∧ ρ'.1 3 = hz_n p ∧ m_rd2 μ' F F (hz_n 1040) = some (hz_n (-100 - (p : Int)), μ') := by
  have hb := fun x hx h3 => qBound (x := x) hN hF h hx h3
  obtain ⟨d1, d2, d3, d4, d5, d6, d7, d8, d9, d10, d11, d12⟩ := h
  have no := qrd2_no (F := F) (A := qA ρ' μ') (by omega) d9 (fun x => rfl) hb
  have e0 : hz_n 1040 = hz_n (1040 + 0 : Nat) := rfl
  rcases d8.2.2 rfl with ⟨s1, s2⟩ | ⟨x, x1, x2, x3, x4, x5⟩
  · refine .inl ⟨s1, ?_⟩
    have := no k' 0 (F - k') k' (by omega) (Nat.le_refl _) (fun z _ hz => s2 z (Nat.zero_le _) hz)
    have ef : F - k' + k' = F := by omega
    rw [ef] at this
    have ef1 : F - k' = (F - k' - 1) + 1 := by omega
    rw [e0, this, ef1, m_rd2, d9, if_pos (Int.le_refl _)]
  · obtain ⟨p, p1, p2⟩ := d8.1 x (Nat.zero_le _) x2
    refine .inr ⟨p, p1, x4.trans p2, ?_⟩
    have := no x 0 (F - x) x (by omega) (by omega) (fun z _ hz => x5 z (Nat.zero_le _) hz)
    have ef : F - x + x = F := by omega
    rw [ef] at this
    have ef1 : F - x = (F - x - 1) + 1 := by omega
    obtain ⟨e, e1, e2, e3⟩ := hb x x2 x3.1
    have he : e = 0 := e3.2 x3
    subst he
    have h3 : (μ'.2 21 (1040 + x)).toInt = 1 := by have := x3.1; show (qA ρ' μ' 3 x).toInt = 1; rw [this, zt1]
    have e40 : hz_n (1040 + x : Nat) - hz_n 1040 = hz_n (x : Nat) := by rw [zn_sub]; congr 1; omega
    have p2' : μ'.2 24 x = hz_n p := p2
    rw [e0, this, ef1, m_rd2, d9, zt (1040 + k') (by omega), zt (1040 + x) (by omega), if_neg (by omega), zgd_t (by omega), Int.toNat_natCast, if_pos h3, e2, Option.bind_some, zt 0 (by omega), if_pos (by omega), e40, zt x (by omega), zgd_t (by omega), Int.toNat_natCast, p2', zn_sub]
