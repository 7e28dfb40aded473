-- what stands at each place of a text: class (1 expression, 2 binder), node, parent (a binder's owner), role, scope
abbrev qT : Type := Nat → Option (Nat × Nat × Nat × Nat × (Nat → Option Nat))
def qU (T T' : qT) : qT := fun p => match T p with
  | some r => some r
  | none => T' p
def qSg (i : Nat) (r : Nat × Nat × Nat × Nat × (Nat → Option Nat)) : qT := fun p => if p = i then some r else none
def qInc (T T' : qT) : Prop := ∀ p r, T p = some r → T' p = some r
noncomputable def qCn (T : qT) : Nat := sumN (fun p => ind (∃ r, T p = some r ∧ r.1 = 2)) 40
theorem qU_l {T T' : qT} : qInc T (qU T T') := fun p r h => by unfold qU; rw [h]
theorem qU_r {T T' : qT} (h : ∀ p r r', T p = some r → T' p = some r' → False) : qInc T' (qU T T') := fun p r hp => by
  unfold qU
  cases e : T p with
  | none => exact hp
  | some r' => exact (h p r' r e hp).elim
theorem qU_o {T T' : qT} {p : Nat} {r : Nat × Nat × Nat × Nat × (Nat → Option Nat)} (h : qU T T' p = some r) : T p = some r ∨ (T p = none ∧ T' p = some r) := by
  unfold qU at h
  cases e : T p with
  | none => rw [e] at h; exact .inr ⟨rfl, h⟩
  | some r' => rw [e] at h; exact .inl h
theorem qSg_o {i p : Nat} {r r' : Nat × Nat × Nat × Nat × (Nat → Option Nat)} (h : qSg i r p = some r') : p = i ∧ r' = r := by
  unfold qSg at h
  by_cases e : p = i
  · rw [if_pos e] at h; cases h; exact ⟨e, rfl⟩
  · rw [if_neg e] at h; cases h
theorem qSg_i {i : Nat} {r : Nat × Nat × Nat × Nat × (Nat → Option Nat)} : qSg i r i = some r := by unfold qSg; rw [if_pos rfl]
theorem ind_or {p q r : Prop} (h : p → q ∨ r) : ind p ≤ ind q + ind r := by
  by_cases hp : p
  · rw [ind_t hp]
    rcases h hp with h | h
    · rw [ind_t h]; omega
    · rw [ind_t h]; omega
  · rw [ind_f hp]; omega
theorem qCn_U (T T' : qT) : qCn (qU T T') ≤ qCn T + qCn T' := by
  unfold qCn
  rw [← sumN_add]
  refine sumN_le (fun p _ => ind_or ?_)
  rintro ⟨r, h, h1⟩
  rcases qU_o h with h | ⟨_, h⟩
  · exact .inl ⟨r, h, h1⟩
  · exact .inr ⟨r, h, h1⟩
theorem qCn_0 {T : qT} (h : ∀ p r, T p = some r → r.1 ≠ 2) : qCn T = 0 := by
  unfold qCn
  have := sumN_zero (f := fun p => ind (∃ r, T p = some r ∧ r.1 = 2)) (n := 0) (k := 40) (fun c _ _ => ind_f (fun ⟨r, h1, h2⟩ => h c r h1 h2))
  rw [Nat.zero_add] at this
  rw [this]; rfl
theorem qCn_1 {i : Nat} {r : Nat × Nat × Nat × Nat × (Nat → Option Nat)} : qCn (qSg i r) ≤ 1 := by
  by_cases hi : i < 40
  · have h1 : qCn (qSg i r) ≤ sumN (fun p => if p = i then 1 else 0) 40 := by
      unfold qCn
      refine sumN_le (fun p _ => ?_)
      show ind _ ≤ if p = i then 1 else 0
      by_cases e : p = i
      · rw [if_pos e]; exact ind_le _
      · rw [if_neg e, ind_f (fun ⟨r', h, _⟩ => e (qSg_o h).1)]; exact Nat.le_refl _
    have h2 : sumN (fun p => if p = i then 1 else 0) 40 = sumN (fun _ => 0) 40 + 1 := sumN_upd (a := i) hi (by show (if i = i then 1 else 0) = _; rw [if_pos rfl]) (fun c _ h => by show (if c = i then 1 else 0) = _; rw [if_neg h])
    have h3 : sumN (fun _ => 0) 40 = sumN (fun _ => 0) 0 := sumN_zero (n := 0) (k := 40) (fun _ _ _ => rfl)
    have h4 : sumN (fun _ => 0) 0 = 0 := rfl
    omega
  · have : qCn (qSg i r) = 0 := by
      unfold qCn
      have h := sumN_zero (f := fun p => ind (∃ r', qSg i r p = some r' ∧ r'.1 = 2)) (n := 0) (k := 40) (fun c _ hc => ind_f (fun ⟨r', h1, h2⟩ => by have := (qSg_o h1).1; omega))
      rw [Nat.zero_add] at h
      rw [h]; rfl
    omega
def qRl (o n : Nat) : Nat := if o = 5 then 1 else if o = 6 then (if n = 0 then 0 else 1) else if o = 10 then (if n = 0 then 2 else 0) else 0
theorem qRl_le (o n : Nat) : qRl o n ≤ 2 := by 
  unfold qRl
  by_cases h5 : o = 5
  · rw [if_pos h5]; omega
  · rw [if_neg h5]
    by_cases h6 : o = 6
    · rw [if_pos h6]; split <;> omega
    · rw [if_neg h6]
      by_cases h10 : o = 10
      · rw [if_pos h10]; split <;> omega
      · rw [if_neg h10]; omega
theorem qRl_2 {o n : Nat} (h : qRl o n = 2) : o = 10 ∧ n = 0 := by
  unfold qRl at h
  by_cases h5 : o = 5
  · rw [if_pos h5] at h; omega
  · rw [if_neg h5] at h
    by_cases h6 : o = 6
    · rw [if_pos h6] at h; split at h <;> omega
    · rw [if_neg h6] at h
      by_cases h10 : o = 10
      · rw [if_pos h10] at h; split at h <;> omega
      · rw [if_neg h10] at h; omega
abbrev qBn (i : Nat) : Nat × Nat × Nat × Nat × (Nat → Option Nat) := (2, 0, i, 0, fun _ => none)
def qKids (A : Nat → Nat → Int32) (K : Nat) (T : qT) (p nd : Nat) (sc : Nat → Option Nat) (o m : Nat) (qs js ks : Nat → Nat) (scs : Nat → Nat → Option Nat) : Prop :=
  A 3 nd = hz_n o ∧ o ≤ 10 ∧ 2 ≤ m ∧ m ≤ 5 ∧ qSp A sc p 0 nd m qs js scs
    ∧ (∀ n, n < m → T (qs n) = some (1, ks n, p, qRl o n, scs n) ∧ p < qs n ∧ qs n < 40 ∧ A 1 (qs n) = hz_n (if n + 1 < m then qs (n + 1) else 0 : Nat)) ∧ (∀ n, n + 1 < m → qs n < js n ∧ js n ≤ qs (n + 1))
    ∧ (∀ n, n < m → ∀ (μ : zM) (b F : Nat), qLk μ A b K → K < F → m_child μ F (hz_n (b + nd : Nat)) (hz_n (n : Nat)) = some (hz_n (b + ks n : Nat)))
    ∧ (o = 9 → T (js 1) = some (qBn p) ∧ T (js 1 + 1) = some (qBn p)) ∧ (o = 10 → T (p + 1) = some (qBn p))
def qHas (A : Nat → Nat → Int32) (K : Nat) (T : qT) (p nd : Nat) (sc : Nat → Option Nat) : Prop := p < 40 ∧ nd < K ∧ (∃ n : Nat, n < 40 ∧ A 1 p = hz_n n) ∧ (∀ v, 26 ≤ v → sc v = none) ∧ qScB sc
  ∧ (qAtom A p nd sc ∨ ∃ o m qs js ks scs, qKids A K T p nd sc o m qs js ks scs)
theorem qHas_m {A : Nat → Nat → Int32} {K : Nat} {T T' : qT} {p nd : Nat} {sc : Nat → Option Nat} (hi : qInc T T') (h : qHas A K T p nd sc) : qHas A K T' p nd sc := by
  obtain ⟨h1, h2, h3, h4, h5, h⟩ := h
  refine ⟨h1, h2, h3, h4, h5, ?_⟩
  rcases h with h | ⟨o, m, qs, js, ks, scs, a1, a2, a3, a4, a5, a6, a7, a8, a9, a10⟩
  · exact .inl h
  · exact .inr ⟨o, m, qs, js, ks, scs, a1, a2, a3, a4, a5, fun n hn => ⟨hi _ _ (a6 n hn).1, (a6 n hn).2⟩, a7, a8, fun e => ⟨hi _ _ (a9 e).1, hi _ _ (a9 e).2⟩, fun e => hi _ _ (a10 e)⟩
def qEnt (A : Nat → Nat → Int32) (K : Nat) (T : qT) : Prop := ∀ p r, T p = some r → (r.1 = 1 ∧ qHas A K T p r.2.1 r.2.2.2.2) ∨ (r.1 = 2 ∧ ∀ v, r.2.2.2.2 v = none)
def qRol (A : Nat → Nat → Int32) (T : qT) (p : Nat) (r : Nat × Nat × Nat × Nat × (Nat → Option Nat)) : Prop := r.2.2.2.1 ≤ 2 ∧ (r.2.2.2.1 = 2 → 2 ≤ p ∧ r.2.2.1 = p - 2 ∧ (∃ r', T (p - 1) = some r' ∧ r'.1 = 2) ∧ ∃ r', T (p - 2) = some r' ∧ r'.1 = 1 ∧ A 3 r'.2.1 = hz_n 10)
theorem qRol_m {A : Nat → Nat → Int32} {T T' : qT} {p : Nat} {r : Nat × Nat × Nat × Nat × (Nat → Option Nat)} (hi : qInc T T') (h : qRol A T p r) : qRol A T' p r := by
  refine ⟨h.1, fun e => ?_⟩
  obtain ⟨h1, h2, ⟨r1, h3, h4⟩, r2, h5, h6, h7⟩ := h.2 e
  exact ⟨h1, h2, ⟨r1, hi _ _ h3, h4⟩, r2, hi _ _ h5, h6, h7⟩
def qTree (A : Nat → Nat → Int32) (K : Nat) (T : qT) (i j k pa ro : Nat) (sc : Nat → Option Nat) : Prop := (∀ p r, T p = some r → i ≤ p ∧ p < j) ∧ T i = some (1, k, pa, ro, sc) ∧ qEnt A K T ∧ (∀ p r, T p = some r → p ≠ i → qRol A T p r) ∧ 5 * qCn T ≤ 2 * (j - i - 1)
theorem qEnt_U {A : Nat → Nat → Int32} {K : Nat} {T T' : qT} (h : qEnt A K T) (h' : qEnt A K T') (hd : ∀ p r r', T p = some r → T' p = some r' → False) : qEnt A K (qU T T') := by
  intro p r hp
  rcases qU_o hp with hp | ⟨_, hp⟩
  · rcases h p r hp with ⟨a, b⟩ | ⟨a, b⟩
    · exact .inl ⟨a, qHas_m qU_l b⟩
    · exact .inr ⟨a, b⟩
  · rcases h' p r hp with ⟨a, b⟩ | ⟨a, b⟩
    · exact .inl ⟨a, qHas_m (qU_r hd) b⟩
    · exact .inr ⟨a, b⟩
-- the parts together
theorem qTrees {A : Nat → Nat → Int32} {K m pa : Nat} {qs js ks rs : Nat → Nat} {scs : Nat → Nat → Option Nat} (hjs : ∀ n, n + 1 < m → js n ≤ qs (n + 1)) (hlt : ∀ n, n < m → qs n < js n) (ih : ∀ n, n < m → ∃ T, qTree A K T (qs n) (js n) (ks n) pa (rs n) (scs n)) :
    ∀ d, d ≤ m → ∃ T, (∀ p r, T p = some r → ∃ n, n < d ∧ qs n ≤ p ∧ p < js n) ∧ (∀ n, n < d → T (qs n) = some (1, ks n, pa, rs n, scs n)) ∧ qEnt A K T ∧ (∀ p r, T p = some r → (∀ n, n < d → p ≠ qs n) → qRol A T p r) ∧ 5 * qCn T + 2 * d ≤ 2 * sumN (fun n => js n - qs n) d
  | 0, _ => ⟨fun _ => none, fun p r h => (by cases h), fun n hn => by omega, fun p r h => (by cases h), fun p r h => (by cases h), by rw [qCn_0 (fun p r h => by cases h)]; exact Nat.zero_le _⟩
  | d + 1, hd => by
    obtain ⟨T, t1, t2, t3, t4, t5⟩ := qTrees hjs hlt ih d (by omega)
    obtain ⟨U, u1, u2, u3, u4, u5⟩ := ih d (by omega)
    have mono : ∀ e n, n + 1 + e ≤ d → js n ≤ qs (n + 1 + e) := by
      intro e
      induction e with
      | zero => intro n hn; exact hjs n (by omega)
      | succ e h =>
        intro n hn
        have h1 := h n (by omega)
        have h2 := hlt (n + 1 + e) (by omega)
        have h3 := hjs (n + 1 + e) (by omega)
        have h4 : qs (n + 1 + e + 1) = qs (n + 1 + (e + 1)) := rfl
        omega
    have dis : ∀ p r r', T p = some r → U p = some r' → False := fun p r r' h1 h2 => by
      obtain ⟨n, n1, n2, n3⟩ := t1 p r h1
      have a := u1 p r' h2
      have b := mono (d - n - 1) n (by omega)
      have e : n + 1 + (d - n - 1) = d := by omega
      rw [e] at b
      omega
    refine ⟨qU T U, fun p r hp => ?_, fun n hn => ?_, qEnt_U t3 u3 dis, fun p r hp hn => ?_, ?_⟩
    · rcases qU_o hp with hp | ⟨_, hp⟩
      · obtain ⟨n, n1, n2⟩ := t1 p r hp
        exact ⟨n, by omega, n2⟩
      · exact ⟨d, by omega, u1 p r hp⟩
    · by_cases hn' : n < d
      · exact qU_l _ _ (t2 n hn')
      · have : n = d := by omega
        subst this
        exact qU_r dis _ _ u2
    · rcases qU_o hp with hp | ⟨_, hp⟩
      · exact qRol_m qU_l (t4 p r hp (fun n h => hn n (by omega)))
      · exact qRol_m (qU_r dis) (u4 p r hp (hn d (by omega)))
    · have := qCn_U T U
      have := hlt d (by omega)
      show _ ≤ 2 * (sumN (fun n => js n - qs n) d + (js d - qs d))
      omega

theorem qLens {qs js : Nat → Nat} {m : Nat} (hjs : ∀ n, n + 1 < m → js n ≤ qs (n + 1)) (hlt : ∀ n, n < m → qs n < js n) : ∀ d, d + 1 ≤ m → sumN (fun n => js n - qs n) (d + 1) + qs 0 ≤ js d ∧ qs 0 ≤ qs d
  | 0, h => by
    show 0 + (js 0 - qs 0) + qs 0 ≤ js 0 ∧ _
    have := hlt 0 (by omega)
    omega
  | d + 1, h => by
    have ih := qLens hjs hlt d (by omega)
    have h1 := hjs d (by omega)
    have h2 := hlt (d + 1) (by omega)
    show sumN (fun n => js n - qs n) (d + 1) + (js (d + 1) - qs (d + 1)) + qs 0 ≤ js (d + 1) ∧ _
    omega
theorem qAsm {A : Nat → Nat → Int32} {K g i j k k' m pa ro o : Nat} {sc : Nat → Option Nat} {qs js ks : Nat → Nat} {scs : Nat → Nat → Option Nat} {B : qT} (hkd : qKd A g i j k k' m qs js ks scs) (hsp : qSp A sc i j k m qs js scs) (ho : A 3 k = hz_n o ∧ o ≤ 10)
    (hg : g ≤ 14) (hK : k' ≤ K) (hj : j ≤ 40) (hnx : ∃ n : Nat, n < 40 ∧ A 1 i = hz_n n) (hv : ∀ v, 26 ≤ v → sc v = none) (hB : qScB sc)
    (b1 : ∀ p r, B p = some r → r = qBn i ∧ i < p ∧ p < j ∧ ∀ n, n < m → ¬ (qs n ≤ p ∧ p < js n)) (b2 : o = 9 → B (js 1) = some (qBn i) ∧ B (js 1 + 1) = some (qBn i)) (b3 : o = 10 → B (i + 1) = some (qBn i) ∧ qs 0 = i + 2)
    (b4 : 5 * qCn B + 2 * sumN (fun n => js n - qs n) m ≤ 2 * (j - i - 1) + 2 * m) (ih : ∀ n, n < m → ∃ T, qTree A K T (qs n) (js n) (ks n) i (qRl o n) (scs n)) : ∃ T, qTree A K T i j k pa ro sc := by
  obtain ⟨c1, c2, c3, c4, c5, c6⟩ := hkd
  have hkd : qKd A g i j k k' m qs js ks scs := ⟨c1, c2, c3, c4, c5, c6⟩
  have hlt : ∀ n, n < m → qs n < js n := fun n hn => (qW_lt (c5 n hn).1).1
  have hkk : k < k' := by have := qmono' (qKd_mo hkd) (a := 0) (b := m) (by omega) (by omega); omega
  have hm0 := c5 0 (by omega)
  have hl0 := hlt 0 (by omega)
  obtain ⟨T, t1, t2, t3, t4, t5⟩ := qTrees c6 hlt ih m (Nat.le_refl _)
  have tr : ∀ p r, T p = some r → i < p ∧ p < j := fun p r h => by
    obtain ⟨n, n1, n2, n3⟩ := t1 p r h
    have := c5 n n1
    omega
  have dB : ∀ p r r', B p = some r → T p = some r' → False := fun p r r' h1 h2 => by
    obtain ⟨n, n1, n2⟩ := t1 p r' h2
    exact (b1 p r h1).2.2.2 n n1 n2
  have dS : ∀ p r r', qSg i (1, k, pa, ro, sc) p = some r → qU B T p = some r' → False := fun p r r' h1 h2 => by
    have e := (qSg_o h1).1
    rcases qU_o h2 with h | ⟨_, h⟩
    · have := (b1 p r' h).2.1; omega
    · have := tr p r' h; omega
  have iB : qInc B (qU (qSg i (1, k, pa, ro, sc)) (qU B T)) := fun p r h => qU_r dS p r (qU_l p r h)
  have iT : qInc T (qU (qSg i (1, k, pa, ro, sc)) (qU B T)) := fun p r h => qU_r dS p r (qU_r dB p r h)
  have i0 : qU (qSg i (1, k, pa, ro, sc)) (qU B T) i = some (1, k, pa, ro, sc) := qU_l i _ qSg_i
  refine ⟨qU (qSg i (1, k, pa, ro, sc)) (qU B T), fun p r hp => ?_, i0, fun p r hp => ?_, fun p r hp hne => ?_, ?_⟩
  · rcases qU_o hp with h | ⟨_, h⟩
    · have := (qSg_o h).1; have := (c5 0 (by omega)); omega
    · rcases qU_o h with h | ⟨_, h⟩
      · have := b1 p r h; omega
      · have := tr p r h; omega
  · rcases qU_o hp with h | ⟨_, h⟩
    · obtain ⟨e, e'⟩ := qSg_o h
      subst e; subst e'
      have hm5 := c1.1
      refine .inl ⟨rfl, by omega, by show k < K; omega, hnx, hv, hB, .inr ⟨o, m, qs, js, ks, scs, ho.1, ho.2, c2, hm5, hsp, fun n hn => ⟨iT _ _ (t2 n hn), (c5 n hn).2.1, ?_, (c5 n hn).2.2.2⟩, fun n hn => ⟨hlt n (by omega), c6 n hn⟩, fun n hn μ b F hl hF => qKd_ch hl hK hg hF hkd hn, fun e => ⟨iB _ _ (b2 e).1, iB _ _ (b2 e).2⟩, fun e => iB _ _ (b3 e).1⟩⟩
      have := hlt n hn
      have := (c5 n hn).2.2.1
      omega
    · rcases qU_o h with h | ⟨_, h⟩
      · have := (b1 p r h).1
        subst this
        exact .inr ⟨rfl, fun _ => rfl⟩
      · rcases t3 p r h with ⟨a, b⟩ | ⟨a, b⟩
        · exact .inl ⟨a, qHas_m iT b⟩
        · exact .inr ⟨a, b⟩
  · rcases qU_o hp with h | ⟨_, h⟩
    · exact absurd (qSg_o h).1 hne
    · rcases qU_o h with h | ⟨_, h⟩
      · have := (b1 p r h).1
        subst this
        exact ⟨Nat.zero_le _, fun e => by exact absurd e (by show ¬ (0 : Nat) = 2; omega)⟩
      · by_cases hn : ∃ n, n < m ∧ p = qs n
        · obtain ⟨n, n1, n2⟩ := hn
          subst n2
          have e := t2 n n1
          rw [h] at e
          cases e
          refine ⟨qRl_le _ _, fun e => ?_⟩
          obtain ⟨e1, e2⟩ := qRl_2 e
          subst e2
          obtain ⟨f1, f2⟩ := b3 e1
          have e3 : qs 0 - 1 = i + 1 := by omega
          have e4 : qs 0 - 2 = i := by omega
          refine ⟨by omega, e4.symm, ⟨qBn i, by rw [e3]; exact iB _ _ f1, rfl⟩, (1, k, pa, ro, sc), by rw [e4]; exact i0, rfl, ?_⟩
          show A 3 k = _; rw [ho.1, e1]; rfl
        · exact qRol_m iT (t4 p r h (fun n h1 h2 => hn ⟨n, h1, h2⟩))
  · have h1 := qCn_U (qSg i (1, k, pa, ro, sc)) (qU B T)
    have h2 := qCn_U B T
    have h3 : qCn (qSg i (1, k, pa, ro, sc)) = 0 := qCn_0 (fun p r h => by rw [(qSg_o h).2]; show (1 : Nat) ≠ 2; omega)
    omega
theorem qTree_at {A : Nat → Nat → Int32} {K i k pa ro : Nat} {sc : Nat → Option Nat} (hi : i < 40) (hk : k < K) (hnx : ∃ n : Nat, n < 40 ∧ A 1 i = hz_n n) (hv : ∀ v, 26 ≤ v → sc v = none) (hB : qScB sc) (h : qAtom A i k sc) : ∃ T, qTree A K T i (i + 1) k pa ro sc := by
  refine ⟨qSg i (1, k, pa, ro, sc), fun p r hp => ?_, qSg_i, fun p r hp => ?_, fun p r hp hne => absurd (qSg_o hp).1 hne, ?_⟩
  · have := (qSg_o hp).1; omega
  · obtain ⟨e, e'⟩ := qSg_o hp
    subst e; subst e'
    exact .inl ⟨rfl, hi, hk, hnx, hv, hB, .inl h⟩
  · rw [qCn_0 (fun p r h => by rw [(qSg_o h).2]; show (1 : Nat) ≠ 2; omega)]; exact Nat.zero_le _
theorem qX_26 {sc : Nat → Option Nat} {v b : Nat} (hv : v < 26) (h : ∀ v, 26 ≤ v → sc v = none) : ∀ u, 26 ≤ u → qX sc v b u = none := fun u hu => by unfold qX; rw [if_neg (by omega)]; exact h u hu
theorem qTree_W {A : Nat → Nat → Int32} {K : Nat} : ∀ {g : Nat} {sc : Nat → Option Nat} {i j k k' : Nat} (pa ro : Nat), g ≤ 14 → k' ≤ K → j ≤ 40 → (∃ n : Nat, n < 40 ∧ A 1 i = hz_n n) → (∀ v, 26 ≤ v → sc v = none) → qScB sc → qW A g sc i j k k' → ∃ T, qTree A K T i j k pa ro sc
  | 0, sc, i, j, k, k', pa, ro, hg, hK, hj, hnx, hv, hB, hw => by
    obtain ⟨a1, a2, a3⟩ := hw
    subst a1; subst a2
    exact qTree_at (by omega) (by omega) hnx hv hB a3
  | g + 1, sc, i, j, k, k', pa, ro, hg, hK, hj, hnx, hv, hB, hw => by
    rcases qW_kd hw with ⟨a1, a2, a3⟩ | ⟨m, qs, js, ks, scs, h, hs⟩
    · subst a1; subst a2
      exact qTree_at (by omega) (by omega) hnx hv hB a3
    · have hlt : ∀ n, n < m → qs n < js n := fun n hn => (qW_lt (h.2.2.2.2.1 n hn).1).1
      have hsv : ∀ n, n < m → ∀ v, 26 ≤ v → scs n v = none := fun n hn => by
        rcases hs with ⟨c, o, e, s1, s2, s3, s4⟩ | ⟨v', u', sv, su, s1, s2, s3, s4, s5, s6, s7, s8, s9⟩ | ⟨v', sv, s1, s2, s3, s4, s5⟩
        · rw [s4 n]; exact hv
        · have : n = 0 ∨ n = 1 ∨ n = 2 := by omega
          rcases this with e | e | e
          · subst e; rw [s6]; exact hv
          · subst e; rw [s7]; exact hv
          · subst e; rw [s9]; exact qX_26 su (qX_26 sv hv)
        · rw [s5 n]; exact qX_26 sv hv
      have ih : ∀ o n, n < m → ∃ T, qTree A K T (qs n) (js n) (ks n) i (qRl o n) (scs n) := fun o n hn => by
        have h5 := h.2.2.2.2.1 n hn
        have mo := qmono' (qKd_mo h) (a := n + 1) (b := m) (by omega) (by omega)
        have e4 := h.2.2.2.1
        refine qTree_W i (qRl o n) (by omega) (by omega) (by omega) ⟨_, ?_, h5.2.2.2⟩ (hsv n hn) (qSp_B hj h hs hn hB) h5.1
        by_cases hn' : n + 1 < m
        · rw [if_pos hn']
          have := (h.2.2.2.2.1 (n + 1) hn').2.2.1
          have := hlt (n + 1) hn'
          omega
        · rw [if_neg hn']; omega
      have h6 := h.2.2.2.2.2
      have hj5 : ∀ n, n < m → js n ≤ j := fun n hn => (h.2.2.2.2.1 n hn).2.2.1
      have hm2 := h.2.1
      have hi5 : ∀ n, n < m → i < qs n := fun n hn => (h.2.2.2.2.1 n hn).2.1
      have ln := qLens h6 hlt (m - 1) (by omega)
      have em : m - 1 + 1 = m := by omega
      rw [em] at ln
      have lj := hj5 (m - 1) (by omega)
      have hs' := hs
      rcases hs' with ⟨c, o, e, s1, s2, s3, s4⟩ | ⟨v', u', sv, su, s1, s2, s3, s4, s5, s6, s7, s8, s9⟩ | ⟨v', sv, s1, s2, s3, s4, s5⟩
      · have ho : o ≤ 10 ∧ o ≠ 9 ∧ o ≠ 10 := by unfold qKind at s1; omega
        refine qAsm (B := fun _ => none) (o := o) h hs ⟨s2.2.1, ho.1⟩ (by omega) hK hj hnx hv hB (fun p r h => by cases h) (fun e => by omega) (fun e => by omega) ?_ (ih o)
        rw [qCn_0 (fun p r h => by cases h)]
        omega
      · subst s4
        have k1 : js 0 ≤ qs 1 := h6 0 (by omega)
        have k2 : qs 1 < js 1 := hlt 1 (by omega)
        have k3 : qs 2 < js 2 := hlt 2 (by omega)
        have k4 := hj5 2 (by omega)
        have k0 := hlt 0 (by omega)
        have l2 := (qLens h6 hlt 1 (by omega)).1
        have d0 : ∀ p r, qSg (js 1) (qBn i) p = some r → ∀ r', qSg (js 1 + 1) (qBn i) p = some r' → False := fun p r h1 r' h2 => by
          have := (qSg_o h1).1; have := (qSg_o h2).1; omega
        refine qAsm (B := qU (qSg (js 1) (qBn i)) (qSg (js 1 + 1) (qBn i))) (o := 9) h hs ⟨s1.2.1, by omega⟩ (by omega) hK hj hnx hv hB (fun p r hp => ?_) (fun _ => ⟨qU_l _ _ qSg_i, qU_r (fun p r r' h1 h2 => d0 p r h1 r' h2) _ _ qSg_i⟩) (fun e => by omega) ?_ (ih 9)
        · have hp' : (p = js 1 ∨ p = js 1 + 1) ∧ r = qBn i := by
            rcases qU_o hp with h | ⟨_, h⟩
            · exact ⟨.inl (qSg_o h).1, (qSg_o h).2⟩
            · exact ⟨.inr (qSg_o h).1, (qSg_o h).2⟩
          refine ⟨hp'.2, by omega, by omega, fun n hn => ?_⟩
          have : n = 0 ∨ n = 1 ∨ n = 2 := by omega
          rcases this with e | e | e
          · subst e; omega
          · subst e; omega
          · subst e; omega
        · have q1 := qCn_U (qSg (js 1) (qBn i)) (qSg (js 1 + 1) (qBn i))
          have q2 := qCn_1 (i := js 1) (r := qBn i)
          have q3 := qCn_1 (i := js 1 + 1) (r := qBn i)
          have e3 : sumN (fun n => js n - qs n) 3 = sumN (fun n => js n - qs n) (1 + 1) + (js 2 - qs 2) := rfl
          omega
      · subst s3
        have k0 := hlt 0 (by omega)
        have k1 := hlt 1 (by omega)
        have k2 : js 0 ≤ qs 1 := h6 0 (by omega)
        have k3 := hj5 0 (by omega)
        refine qAsm (B := qSg (i + 1) (qBn i)) (o := 10) h hs ⟨s1.2.1, by omega⟩ (by omega) hK hj hnx hv hB (fun p r hp => ?_) (fun e => by omega) (fun _ => ⟨qSg_i, s4⟩) ?_ (ih 10)
        · obtain ⟨e1, e2⟩ := qSg_o hp
          refine ⟨e2, by omega, by omega, fun n hn => ?_⟩
          have : n = 0 ∨ n = 1 := by omega
          rcases this with e | e
          · subst e; omega
          · subst e; omega
        · have q2 := qCn_1 (i := i + 1) (r := qBn i)
          omega

-- the ghost of a definition
def qS1 (t : Nat → Nat) (m N : Nat) (A : Nat → Nat → Int32) (T : qT) : Nat → Nat → Nat
  | 0, p => match T p with
    | some r => r.2.1
    | none => 0
  | 1, p => if p < m then 2 else match T p with
    | some r => r.1
    | none => 0
  | 2, p => match T p with
    | some r => r.2.2.1
    | none => 0
  | 3, p => match T p with
    | some r => r.2.2.2.1
    | none => 0
  | 4, p => if p < m then 40 else match T p with
    | some r => r.2.2.1
    | none => 0
  | 5, p => t p
  | 6, p => (A 1 p).toInt.toNat
  | 7, p => (A 2 p).toInt.toNat
  | 8, p => match T p with
    | some r => (A 3 r.2.1).toInt.toNat
    | none => 0
  | 9, p => if p < m then t p - 97 else match T p with
    | some r => (A 4 r.2.1).toInt.toNat
    | none => 0
  | 10, p => match T p with
    | some r => (A 5 r.2.1).toInt.toNat
    | none => 0
  | 11, _ => m
  | _ + 12, _ => N
def qS (S : zG) (l : Nat) (t : Nat → Nat) (m N : Nat) (A : Nat → Nat → Int32) (T : qT) : zG :=
  (fun r l' p => if l' = l then qS1 t m N A T r p else S.1 r l' p, fun l' p v => if l' = l then (match T p with
    | some r => r.2.2.2.2 v
    | none => none) else S.2 l' p v)
theorem qS_r {S : zG} {l : Nat} {t : Nat → Nat} {m N : Nat} {A : Nat → Nat → Int32} {T : qT} (r p : Nat) : (qS S l t m N A T).1 r l p = qS1 t m N A T r p := by
  show (if l = l then _ else _) = _; rw [if_pos rfl]
theorem qS_e {S : zG} {l : Nat} {t : Nat → Nat} {m N : Nat} {A : Nat → Nat → Int32} {T : qT} {p c nd pa ro : Nat} {sc : Nat → Option Nat} (h : T p = some (c, nd, pa, ro, sc)) (hm : ¬ p < m) :
    s_nd (qS S l t m N A T) l p = nd ∧ s_cl (qS S l t m N A T) l p = c ∧ s_pa (qS S l t m N A T) l p = pa ∧ s_ro (qS S l t m N A T) l p = ro ∧ s_ow (qS S l t m N A T) l p = pa ∧ s_sg (qS S l t m N A T) l p = t p ∧ s_nx (qS S l t m N A T) l p = (A 1 p).toInt.toNat
    ∧ s_bi (qS S l t m N A T) l p = (A 2 p).toInt.toNat ∧ s_op (qS S l t m N A T) l p = (A 3 nd).toInt.toNat ∧ s_vl (qS S l t m N A T) l p = (A 4 nd).toInt.toNat ∧ s_mo (qS S l t m N A T) l p = (A 5 nd).toInt.toNat ∧ s_sc (qS S l t m N A T) l p = sc := by
  refine ⟨?_, ?_, ?_, ?_, ?_, ?_, ?_, ?_, ?_, ?_, ?_, ?_⟩
  · show (qS S l t m N A T).1 0 l p = _; rw [qS_r, qS1, h]
  · show (qS S l t m N A T).1 1 l p = _; rw [qS_r, qS1, if_neg hm, h]
  · show (qS S l t m N A T).1 2 l p = _; rw [qS_r, qS1, h]
  · show (qS S l t m N A T).1 3 l p = _; rw [qS_r, qS1, h]
  · show (qS S l t m N A T).1 4 l p = _; rw [qS_r, qS1, if_neg hm, h]
  · show (qS S l t m N A T).1 5 l p = _; rw [qS_r, qS1]
  · show (qS S l t m N A T).1 6 l p = _; rw [qS_r, qS1]
  · show (qS S l t m N A T).1 7 l p = _; rw [qS_r, qS1]
  · show (qS S l t m N A T).1 8 l p = _; rw [qS_r, qS1, h]
  · show (qS S l t m N A T).1 9 l p = _; rw [qS_r, qS1, if_neg hm, h]
  · show (qS S l t m N A T).1 10 l p = _; rw [qS_r, qS1, h]
  · funext v; show (if l = l then _ else _) = _; rw [if_pos rfl, h]
theorem zN (c : Nat) (h : c ≤ 2147483647) : (hz_n (c : Int)).toInt.toNat = c := by rw [zt c h, Int.toNat_natCast]
-- what the reference holds of the letter
def qLt (A : Nat → Nat → Int32) (ST : Nat → Nat → Int32) (l K : Nat) : Prop := ∀ x, x < K → ST 21 (40 * l + x) = A 3 x ∧ ST 22 (40 * l + x) = A 4 x ∧ ST 23 (40 * l + x) = A 5 x
theorem qKid {S : zG} {l : Nat} {t : Nat → Nat} {m N F K : Nat} {A ST : Nat → Nat → Int32} {T : qT} {p nd pa ro o mm n : Nat} {sc : Nat → Option Nat} {qs js ks : Nat → Nat} {scs : Nat → Nat → Option Nat} (hl : l < 26) (hK : K ≤ 40) (hF : 100 ≤ F) (hlt : qLt A ST l K) (hd : ∀ p r, T p = some r → ¬ p < m)
    (hp : T p = some (1, nd, pa, ro, sc)) (h : qKids A K T p nd sc o mm qs js ks scs) (hn : n < mm) : bKid ST F (qS S l t m N A T) l p n (qs n) (qRl o n) := by
  obtain ⟨a1, a2, a3, a4, a5, a6, a7, a8, a9, a10⟩ := h
  obtain ⟨b1, b2, b3, b4⟩ := a6 n hn
  obtain ⟨c1, c2, c3, c4, _⟩ := qS_e (S := S) (l := l) (t := t) (N := N) (A := A) b1 (hd _ _ b1)
  obtain ⟨d1, _⟩ := qS_e (S := S) (l := l) (t := t) (N := N) (A := A) hp (hd _ _ hp)
  refine ⟨c2, c3, c4, b2, ?_⟩
  rw [c1, d1]
  intro μ h1 h3
  exact a8 n hn μ (40 * l) F ⟨by omega, fun x hx => by rw [h1, h3]; exact ⟨(hlt x hx).1, (hlt x hx).2.2⟩⟩ (by omega)
theorem qnx {S : zG} {l : Nat} {t : Nat → Nat} {m N K : Nat} {A : Nat → Nat → Int32} {T : qT} {p nd o mm n : Nat} {sc : Nat → Option Nat} {qs js ks : Nat → Nat} {scs : Nat → Nat → Option Nat} (h : qKids A K T p nd sc o mm qs js ks scs) (hn : n < mm) : s_nx (qS S l t m N A T) l (qs n) = if n + 1 < mm then qs (n + 1) else 0 := by
  show (qS S l t m N A T).1 6 l (qs n) = _
  rw [qS_r, qS1, (h.2.2.2.2.2.1 n hn).2.2.2]
  by_cases hn' : n + 1 < mm
  · rw [if_pos hn', zN _ (by have := (h.2.2.2.2.2.1 (n + 1) hn').2.2.1; omega)]
  · rw [if_neg hn']; rfl
theorem qShp {S : zG} {l : Nat} {t : Nat → Nat} {m N F K : Nat} {A ST : Nat → Nat → Int32} {T : qT} {p nd pa ro : Nat} {sc : Nat → Option Nat} (hl : l < 26) (hK : K ≤ 40) (hF : 100 ≤ F) (hlt : qLt A ST l K) (hd : ∀ p r, T p = some r → ¬ p < m) (hA : ∀ p, A 0 p = hz_n (t p)) (ht : ∀ p, t p < 65536)
    (hns : ∀ x, x < K → ¬ qSt A x) (hp : T p = some (1, nd, pa, ro, sc)) (h : qHas A K T p nd sc) : bShp ST F (qS S l t m N A T) l p := by
  obtain ⟨h1, h2, h3, h4, h5, h⟩ := h
  obtain ⟨e_nd, e_cl, e_pa, e_ro, e_ow, e_sg, e_nx, e_bi, e_op, e_vl, e_mo, e_sc⟩ := qS_e (S := S) (l := l) (t := t) (N := N) (A := A) hp (hd _ _ hp)
  have sg : ∀ c, c < 1000 → A 0 p = hz_n (c : Nat) → t p = c := fun c hc e => by
    rw [hA] at e
    have := ht p
    have := zn_inj (by omega) (by omega) e
    omega
  rcases h with h | ⟨o, mm, qs, js, ks, scs, h⟩
  · rcases h with ⟨v, v1, v2, v3, v4⟩ | ⟨v, v1, v2, v3⟩ | ⟨v, v1, v2, v3⟩ | v2
    · refine .inl ?_
      have hb : ∃ b, sc v = some b := by
        cases hq : sc v with
        | some b => exact ⟨b, rfl⟩
        | none =>
          refine absurd ?_ (hns nd h2)
          refine ⟨v2.2.1, ?_⟩
          rw [v2.2.2, zN p (by omega), v4]
          unfold qsc; rw [hq]
      obtain ⟨b, hb⟩ := hb
      have hb4 := h5 v b hb
      have e2 : A 2 p = hz_n b := by rw [v4]; unfold qsc; rw [hb]
      have ev : s_vl (qS S l t m N A T) l p = v := by rw [e_vl, v3, zN v (by omega)]
      have eb : s_bi (qS S l t m N A T) l p = b := by rw [e_bi, e2, zN b (by omega)]
      refine ⟨by rw [e_op, v2.2.1]; exact zN 1 (by omega), ?_, by omega, ?_, by omega⟩
      · rw [e_sg, ev]; exact sg _ (by omega) v2.1
      · rw [e_sc, ev, eb]; exact hb
    · refine .inr (.inl ⟨by rw [e_op, v2.2.1]; exact zN 2 (by omega), ?_, ?_⟩)
      · rw [e_sg, e_vl, v3, zN v (by omega)]; exact sg _ (by omega) v2.1
      · rw [e_vl, v3, zN v (by omega)]; exact v1
    · refine .inr (.inr (.inl ⟨by rw [e_op, v2.2.1]; exact zN 3 (by omega), ?_, ?_⟩))
      · rw [e_sg, e_vl, v3, zN v (by omega)]; exact sg _ (by omega) v2.1
      · rw [e_vl, v3, zN v (by omega)]; exact v1
    · refine .inr (.inr (.inr (.inl ⟨by rw [e_op, v2.2.1]; exact zN 4 (by omega), ?_⟩)))
      rw [e_sg]; exact sg _ (by omega) v2.1
  · have kid := fun n hn => qKid (S := S) (t := t) (N := N) (n := n) hl hK hF hlt hd hp h hn
    have nx := fun n hn => qnx (S := S) (l := l) (t := t) (m := m) (N := N) (n := n) h hn
    obtain ⟨a1, a2, a3, a4, a5, a6, a7, a8, a9, a10⟩ := h
    have sce : ∀ n, n < mm → s_sc (qS S l t m N A T) l (qs n) = scs n := fun n hn => by
      have b1 := (a6 n hn).1
      obtain ⟨_, _, _, _, _, _, _, _, _, _, _, c⟩ := qS_e (S := S) (l := l) (t := t) (N := N) (A := A) b1 (hd _ _ b1)
      exact c
    have eo : s_op (qS S l t m N A T) l p = o := by rw [e_op, a1, zN o (by omega)]
    have inj : ∀ o' : Nat, o' ≤ 10 → A 3 nd = hz_n o' → o = o' := fun o' ho' e => by
      rw [a1] at e
      have := zn_inj (by omega) (by omega) e
      omega
    rcases a5 with ⟨c, o', e, s1, s2, s3, s4⟩ | ⟨v', u', sv, su, s1, s2, s3, s4, s5, s6, s7, s8, s9⟩ | ⟨v', sv, s1, s2, s3, s4, s5⟩
    · have oo : o = o' := inj o' (by unfold qKind at s1; omega) s2.2.1
      subst oo
      have cs : t p = c := sg c (by unfold qKind at s1; omega) s2.1
      rcases s1 with ⟨rfl, rfl, rfl, rfl, hv⟩ | ⟨hc, rfl, rfl, rfl, hv⟩ | ⟨rfl, rfl, rfl, rfl, hv⟩ | ⟨rfl, rfl, m1, m2, rfl, hv, hm⟩
      · have k0 := kid 0 (by omega)
        have k1 := kid 1 (by omega)
        have n0 : s_nx (qS S l t m N A T) l (qs 0) = qs 1 := nx 0 (by omega)
        have l1 : qs 0 < qs 1 := by have : qs 0 < js 0 ∧ js 0 ≤ qs 1 := a7 0 (by omega); omega
        rw [s3] at k0 n0 l1
        have sc0 := sce 0 (by omega)
        rw [s3] at sc0
        refine .inr (.inr (.inr (.inr (.inl ⟨eo, by rw [e_sg]; exact cs, k0, ?_, ?_, ?_, ?_⟩))))
        · rw [n0]; exact k1
        · rw [sc0, e_sc, s4]
        · rw [n0, sce 1 (by omega), e_sc, s4]
        · rw [n0]; exact l1
      · have k0 := kid 0 (by omega)
        have k1 := kid 1 (by omega)
        have n0 : s_nx (qS S l t m N A T) l (qs 0) = qs 1 := nx 0 (by omega)
        have l1 : qs 0 < qs 1 := by have : qs 0 < js 0 ∧ js 0 ≤ qs 1 := a7 0 (by omega); omega
        rw [s3] at k0 n0 l1
        have sc0 := sce 0 (by omega)
        rw [s3] at sc0
        have ev : s_vl (qS S l t m N A T) l p = c := by rw [e_vl, hv, zN c (by omega)]
        refine .inr (.inr (.inr (.inr (.inr (.inr (.inl ⟨eo, by rw [e_sg, ev]; exact cs, by rw [ev]; exact hc, k0, ?_, ?_, ?_, ?_⟩))))))
        · rw [n0]; exact k1
        · rw [n0]; exact l1
        · rw [sc0, e_sc, s4]
        · rw [n0, sce 1 (by omega), e_sc, s4]
      · have k0 := kid 0 (by omega)
        have k1 := kid 1 (by omega)
        have k2 := kid 2 (by omega)
        have n0 : s_nx (qS S l t m N A T) l (qs 0) = qs 1 := nx 0 (by omega)
        have n1 : s_nx (qS S l t m N A T) l (qs 1) = qs 2 := nx 1 (by omega)
        have l1 : qs 0 < qs 1 := by have : qs 0 < js 0 ∧ js 0 ≤ qs 1 := a7 0 (by omega); omega
        have l2 : qs 1 < qs 2 := by have : qs 1 < js 1 ∧ js 1 ≤ qs 2 := a7 1 (by omega); omega
        rw [s3] at k0 n0 l1
        have sc0 := sce 0 (by omega)
        rw [s3] at sc0
        refine .inr (.inr (.inr (.inr (.inr (.inr (.inr (.inl ⟨eo, by rw [e_sg]; exact cs, k0, ?_, ?_, ?_, ?_, ?_, ?_, ?_⟩)))))))
        · rw [n0]; exact k1
        · rw [n0, n1]; exact k2
        · rw [n0]; exact l1
        · rw [n0, n1]; exact l2
        · rw [sc0, e_sc, s4]
        · rw [n0, sce 1 (by omega), e_sc, s4]
        · rw [n0, n1, sce 2 (by omega), e_sc, s4]
      · have em : s_mo (qS S l t m N A T) l p = mm - 1 := by rw [e_mo, hm, zN _ (by omega)]
        have arg : ∀ j, j < mm → s_arg (qS S l t m N A T) l p j = qs j := by
          intro j
          induction j with
          | zero => intro _; exact s3.symm
          | succ j ihj =>
            intro hj
            show s_nx (qS S l t m N A T) l (s_arg (qS S l t m N A T) l p j) = _
            rw [ihj (by omega), nx j (by omega), if_pos hj]
        have k0 := kid 0 (by omega)
        have sc0 := sce 0 (by omega)
        rw [s3] at k0 sc0
        refine .inr (.inr (.inr (.inr (.inr (.inl ⟨eo, by rw [e_sg]; exact cs, k0, by rw [sc0, e_sc, s4], by omega, by omega, fun j hj => ?_, ?_⟩)))))
        · have r1 : qRl 6 (j + 1) = 1 := rfl
          have kj := kid (j + 1) (by omega)
          have lj := a7 j (by omega)
          rw [r1] at kj
          rw [arg j (by omega), arg (j + 1) (by omega), sce (j + 1) (by omega), e_sc, s4]
          exact ⟨kj, by omega, rfl⟩
        · rw [em, arg (mm - 1) (by omega), nx (mm - 1) (by omega), if_neg (by omega)]
    · have oo : o = 9 := inj 9 (by omega) s1.2.1
      subst oo; subst s4
      have cs : t p = 47 := sg 47 (by omega) s1.1
      have k0 := kid 0 (by omega)
      have k1 := kid 1 (by omega)
      have k2 := kid 2 (by omega)
      have n0 : s_nx (qS S l t m N A T) l (qs 0) = qs 1 := nx 0 (by omega)
      have n1 : s_nx (qS S l t m N A T) l (qs 1) = qs 2 := nx 1 (by omega)
      have l1 : qs 0 < qs 1 := by have : qs 0 < js 0 ∧ js 0 ≤ qs 1 := a7 0 (by omega); omega
      have l2 : qs 1 < js 1 := by have : qs 1 < js 1 ∧ js 1 ≤ qs 2 := a7 1 (by omega); omega
      rw [s5] at k0 n0 l1
      have sc0 := sce 0 (by omega)
      rw [s5] at sc0
      obtain ⟨t1, t2⟩ := a9 rfl
      obtain ⟨_, x1, _, _, x2, _⟩ := qS_e (S := S) (l := l) (t := t) (N := N) (A := A) t1 (hd _ _ t1)
      obtain ⟨_, y1, _, _, y2, _⟩ := qS_e (S := S) (l := l) (t := t) (N := N) (A := A) t2 (hd _ _ t2)
      have ev : s_vl (qS S l t m N A T) l p = v' := by rw [e_vl, s2, zN v' (by omega)]
      have eu : s_mo (qS S l t m N A T) l p = u' := by rw [e_mo, s3, zN u' (by omega)]
      have q2 : qs 2 - 2 = js 1 := by omega
      have q1 : qs 2 - 1 = js 1 + 1 := by omega
      refine .inr (.inr (.inr (.inr (.inr (.inr (.inr (.inr (.inl ⟨eo, by rw [e_sg]; exact cs, k0, ?_, ?_, ?_, ?_, by omega, by omega, ?_, ?_, ?_, ?_, ?_, ?_, fun v => ?_⟩))))))))
      · rw [n0]; exact k1
      · rw [n0, n1]; exact k2
      · rw [n0]; exact l1
      · rw [n0, n1]; omega
      · rw [n0, n1, q2]; exact x1
      · rw [n0, n1, q1]; exact y1
      · rw [n0, n1, q2]; exact x2
      · rw [n0, n1, q1]; exact y2
      · rw [sc0, e_sc, s6]
      · rw [n0, sce 1 (by omega), e_sc, s7]
      · rw [n0, n1, sce 2 (by omega), e_sc, s9, ev, eu, q1, q2]; rfl
    · have oo : o = 10 := inj 10 (by omega) s1.2.1
      subst oo; subst s3
      have cs : t p = 36 := sg 36 (by omega) s1.1
      have k0 := kid 0 (by omega)
      have k1 := kid 1 (by omega)
      have n0 : s_nx (qS S l t m N A T) l (qs 0) = qs 1 := nx 0 (by omega)
      have l1 : qs 0 < qs 1 := by have : qs 0 < js 0 ∧ js 0 ≤ qs 1 := a7 0 (by omega); omega
      rw [s4] at k0 n0 l1
      have sc0 := sce 0 (by omega)
      rw [s4] at sc0
      have t1 := a10 rfl
      obtain ⟨_, x1, _, _, x2, _⟩ := qS_e (S := S) (l := l) (t := t) (N := N) (A := A) t1 (hd _ _ t1)
      have ev : s_vl (qS S l t m N A T) l p = v' := by rw [e_vl, s2, zN v' (by omega)]
      refine .inr (.inr (.inr (.inr (.inr (.inr (.inr (.inr (.inr ⟨eo, by rw [e_sg]; exact cs, k0, ?_, ?_, by omega, x1, x2, fun v => ?_, fun v => ?_⟩))))))))
      · rw [n0]; exact k1
      · rw [n0]; exact l1
      · rw [sc0, e_sc, s5, ev]; rfl
      · rw [n0, sce 1 (by omega), e_sc, s5, ev]; rfl

-- what a definition was read from, beside what both hold of it
def qSrc (ST : Nat → Nat → Int32) (T : zT) (l : Nat) : Prop := ∃ (t : Nat → Nat) (m N k' : Nat) (A : Nat → Nat → Int32), N ≤ 40 ∧ m ≤ 4 ∧ m + 1 < N ∧ k' ≤ 40 ∧ (∀ p, t p < 65536) ∧ (∀ p, A 0 p = hz_n (t p)) ∧ qW A 14 (qLp t m) (m + 1) N 0 k' ∧ A 1 (m + 1) = hz_n 0
  ∧ (∀ k, k < m → 97 ≤ t k ∧ t k ≤ 122) ∧ (∀ x, x < k' → ¬ qSt A x) ∧ T = (N, A 0, A 1, A 2, hz_n m) ∧ ST 19 l = hz_n m ∧ (∀ k, k < m → ST 20 (4 * l + k) = hz_n (t k - 97 : Nat)) ∧ qLt A ST l k'
theorem qLp_26 {t : Nat → Nat} : ∀ {m : Nat}, (∀ k, k < m → t k ≤ 122) → ∀ v, 26 ≤ v → qLp t m v = none
  | 0, _, v, _ => rfl
  | m + 1, h, v, hv => by
    show (if t m - 97 = v then some m else qLp t m v) = none
    have := h m (by omega)
    rw [if_neg (by omega)]; exact qLp_26 (fun k hk => h k (by omega)) v hv
theorem sumN_lt {m : Nat} (hm : m ≤ 40) : sumN (fun p => ind (p < m)) 40 = m := by
  have h1 : sumN (fun p => ind (p < m)) (m + (40 - m)) = sumN (fun p => ind (p < m)) m := sumN_zero (fun c h1 h2 => ind_f (by omega))
  have h2 : sumN (fun p => ind (p < m)) (0 + m) = sumN (fun p => ind (p < m)) 0 + m * 1 := sumN_ones (fun c h1 h2 => ind_t (by omega))
  have e : m + (40 - m) = 40 := by omega
  have h3 : sumN (fun p => ind (p < m)) 0 = 0 := rfl
  rw [e] at h1
  rw [Nat.zero_add] at h2
  omega
theorem qSrc_def {ST : Nat → Nat → Int32} {T : zT} {l F : Nat} (hl : l < 26) (hF : 100 ≤ F) (h : qSrc ST T l) : ∃ S, bDef ST F S T l ∧ bCap S l := by
  obtain ⟨t, m, N, k', A, hN, hm, hmN, hk, ht, hA, hw, hnx, hpr, hns, hT, h19, h20, hlt⟩ := h
  have hmt : ∀ k, k < m → t k ≤ 122 := fun k hk => (hpr k hk).2
  obtain ⟨Tb, b1, b2, b3, b4, b5⟩ := qTree_W (A := A) (K := k') 40 3 (Nat.le_refl _) (Nat.le_refl _) hN ⟨0, by omega, hnx⟩ (qLp_26 hmt) (qLp_B (by omega)) hw
  have hd : ∀ p r, Tb p = some r → ¬ p < m := fun p r h => by have := b1 p r h; omega
  have S0 : zG := (fun _ _ _ => 0, fun _ _ _ => none)
  subst hT
  have zr : ∀ r p, (qS S0 l t m N A Tb).1 r l p = qS1 t m N A Tb r p := fun r p => qS_r r p
  have zpc : s_pc (qS S0 l t m N A Tb) l = m := by show (qS S0 l t m N A Tb).1 11 l 0 = _; rw [zr]; rfl
  have zn : s_n (qS S0 l t m N A Tb) l = N := by show (qS S0 l t m N A Tb).1 12 l 0 = _; rw [zr]; rfl
  have vl : ∀ k, k < m → s_vl (qS S0 l t m N A Tb) l k = t k - 97 := fun k hk => by show (qS S0 l t m N A Tb).1 9 l k = _; rw [zr, qS1, if_pos hk]
  have cl : ∀ k, k < m → s_cl (qS S0 l t m N A Tb) l k = 2 := fun k hk => by show (qS S0 l t m N A Tb).1 1 l k = _; rw [zr, qS1, if_pos hk]
  have ow : ∀ k, k < m → s_ow (qS S0 l t m N A Tb) l k = 40 := fun k hk => by show (qS S0 l t m N A Tb).1 4 l k = _; rw [zr, qS1, if_pos hk]
  have lp : ∀ k v, k ≤ m → s_lp (qS S0 l t m N A Tb) l v k = qLp t k v := by
    intro k
    induction k with
    | zero => intro v _; rfl
    | succ k ih =>
      intro v hk
      show (if s_vl (qS S0 l t m N A Tb) l k = v then some k else s_lp (qS S0 l t m N A Tb) l v k) = if t k - 97 = v then some k else qLp t k v
      rw [vl k (by omega), ih v (by omega)]
  obtain ⟨r_nd, r_cl, r_pa, r_ro, r_ow, r_sg, r_nx, r_bi, r_op, r_vl, r_mo, r_sc⟩ := qS_e (S := S0) (l := l) (t := t) (N := N) (A := A) b2 (hd _ _ b2)
  have some_of : ∀ p, Tb p = none ∨ ∃ c nd pa ro sc, Tb p = some (c, nd, pa, ro, sc) := fun p => by
    cases e : Tb p with
    | none => exact .inl rfl
    | some r => exact .inr ⟨r.1, r.2.1, r.2.2.1, r.2.2.2.1, r.2.2.2.2, rfl⟩
  have cl_of : ∀ p c, s_cl (qS S0 l t m N A Tb) l p = c → c ≠ 0 → ¬ p < m → ∃ nd pa ro sc, Tb p = some (c, nd, pa, ro, sc) := fun p c h h0 hp => by
    rcases some_of p with e | ⟨c', nd, pa, ro, sc, e⟩
    · have : s_cl (qS S0 l t m N A Tb) l p = 0 := by show (qS S0 l t m N A Tb).1 1 l p = _; rw [zr, qS1, if_neg hp, e]
      omega
    · have := (qS_e (S := S0) (l := l) (t := t) (N := N) (A := A) e hp).2.1
      have : c' = c := by omega
      subst this
      exact ⟨nd, pa, ro, sc, e⟩
  have hNm : ¬ m + 1 < m := by omega
  refine ⟨qS S0 l t m N A Tb, ⟨?_, ?_, ?_, ?_, ?_, ?_, fun k hk => ?_, ?_, ?_, ⟨?_, ?_⟩, fun v => ?_, ⟨fun p hp => ?_, fun p v hv => ?_⟩, fun p hp => ?_, fun p hp => ?_⟩, ?_, fun hop => ?_, fun q hq hr => ?_⟩
  · rw [zn]
  · rw [zn]; exact hN
  · rw [zpc]; exact hm
  · rw [zpc, zn]; exact hmN
  · rw [zpc]
  · rw [zpc]; exact h19
  · rw [zpc] at hk
    have := hpr k hk
    refine ⟨by rw [vl k hk]; exact h20 k hk, by rw [vl k hk]; omega, cl k hk, ow k hk⟩
  · rw [zpc]; exact r_cl
  · rw [zpc]; exact r_ro
  · rw [zpc]; exact r_nd
  · rw [zpc]; exact r_pa
  · rw [zpc, r_sc, lp m v (Nat.le_refl _)]
  · rw [zpc]
    rcases some_of p with e | ⟨c', nd, pa, ro, sc, e⟩
    · have : s_ro (qS S0 l t m N A Tb) l p = 0 := by show (qS S0 l t m N A Tb).1 3 l p = _; rw [zr, qS1, e]
      omega
    · have h1 := (qS_e (S := S0) (l := l) (t := t) (N := N) (A := A) e (hd _ _ e)).2.2.2.1
      by_cases hpi : p = m + 1
      · exact hpi
      · have := (b4 p _ e hpi).1
        have h2 : ro ≤ 2 := this
        omega
  · show (qS S0 l t m N A Tb).2 l p v = none
    show (if l = l then _ else _) = _
    rw [if_pos rfl]
    rcases some_of p with e | ⟨c', nd, pa, ro, sc, e⟩
    · rw [e]
    · rw [e]
      rcases b3 p _ e with ⟨_, h⟩ | ⟨_, h⟩
      · exact h.2.2.2.1 v hv
      · exact h v
  · rw [zn]
    by_cases hpm : p < m
    · omega
    · obtain ⟨nd, pa, ro, sc, e⟩ := cl_of p 2 hp (by omega) hpm
      have := b1 p _ e; omega
  · have hpm : ¬ p < m := fun h => by have := cl p h; omega
    obtain ⟨nd, pa, ro, sc, e⟩ := cl_of p 1 hp (by omega) hpm
    obtain ⟨e_nd, e_cl, e_pa, e_ro, e_ow, e_sg, e_nx, e_bi, e_op, e_vl, e_mo, e_sc⟩ := qS_e (S := S0) (l := l) (t := t) (N := N) (A := A) e hpm
    have hd1 := b1 p _ e
    have hh : qHas A k' Tb p nd sc := by
      rcases b3 p _ e with ⟨_, h⟩ | ⟨h, _⟩
      · exact h
      · have h' : (1 : Nat) = 2 := h
        omega
    have shp := qShp (S := S0) (F := F) (N := N) hl hk hF hlt hd hA ht hns e hh
    obtain ⟨q1, q2, ⟨nx, q3, q4⟩, q5, q6, q7⟩ := hh
    have ro3 : ro ≤ 3 := by
      by_cases hpi : p = m + 1
      · subst hpi; rw [b2] at e; cases e; omega
      · have := (b4 p _ e hpi).1
        have h2 : ro ≤ 2 := this
        omega
    -- the rows as numbers
    have num : ∀ r x, (∃ c : Nat, c < 1000 ∧ A r x = hz_n c) → A r x = hz_n ((A r x).toInt.toNat : Nat) := fun r x ⟨c, c1, c2⟩ => by rw [c2, zN c (by omega)]
    have n3 : ∃ c : Nat, c < 1000 ∧ A 3 nd = hz_n c := by
      rcases q7 with q7 | ⟨o, mm, qs, js, ks, scs, q7⟩
      · rcases q7 with ⟨v, _, h, _⟩ | ⟨v, _, h, _⟩ | ⟨v, _, h, _⟩ | h
        · exact ⟨1, by omega, h.2.1⟩
        · exact ⟨2, by omega, h.2.1⟩
        · exact ⟨3, by omega, h.2.1⟩
        · exact ⟨4, by omega, h.2.1⟩
      · exact ⟨o, by have := q7.2.1; omega, q7.1⟩
    have n4 : A 3 nd ≠ hz_n 4 → ∃ c : Nat, c < 1000 ∧ A 4 nd = hz_n c := by
      intro h4
      rcases q7 with q7 | ⟨o, mm, qs, js, ks, scs, q7⟩
      · rcases q7 with ⟨v, v1, h, h', _⟩ | ⟨v, v1, h, h'⟩ | ⟨v, v1, h, h'⟩ | h
        · exact ⟨v, by omega, h'⟩
        · exact ⟨v, by omega, h'⟩
        · exact ⟨v, by omega, h'⟩
        · exact absurd h.2.1 h4
      · rcases q7.2.2.2.2.1 with ⟨c, o', e, s1, s2, s3, s4⟩ | ⟨v', u', sv, su, s1, s2, s3, _⟩ | ⟨v', sv, s1, s2, _⟩
        · rcases s1 with ⟨_, _, _, _, h⟩ | ⟨hc, _, _, _, h⟩ | ⟨_, _, _, _, h⟩ | ⟨_, _, _, _, _, h, _⟩
          · exact ⟨0, by omega, h⟩
          · exact ⟨c, by omega, h⟩
          · exact ⟨0, by omega, h⟩
          · exact ⟨0, by omega, h⟩
        · exact ⟨v', by omega, s2⟩
        · exact ⟨v', by omega, s2⟩
    have n5 : A 3 nd = hz_n 6 ∨ A 3 nd = hz_n 9 → ∃ c : Nat, c < 1000 ∧ A 5 nd = hz_n c := by
      intro h69
      have no : ∀ o : Nat, o < 100 → A 3 nd = hz_n o → o = 6 ∨ o = 9 := fun o ho h => by
        rcases h69 with h6 | h6
        · rw [h6] at h; have := zn_inj (by omega) (by omega) h; omega
        · rw [h6] at h; have := zn_inj (by omega) (by omega) h; omega
      rcases q7 with q7 | ⟨o, mm, qs, js, ks, scs, q7⟩
      · rcases q7 with ⟨v, v1, h, h', _⟩ | ⟨v, v1, h, h'⟩ | ⟨v, v1, h, h'⟩ | h
        · have := no _ (by omega) h.2.1; omega
        · have := no _ (by omega) h.2.1; omega
        · have := no _ (by omega) h.2.1; omega
        · have := no _ (by omega) h.2.1; omega
      · rcases q7.2.2.2.2.1 with ⟨c, o', e, s1, s2, s3, s4⟩ | ⟨v', u', sv, su, s1, s2, s3, _⟩ | ⟨v', sv, s1, s2, _⟩
        · have := no o' (by unfold qKind at s1; omega) s2.2.1
          rcases s1 with ⟨_, _, _, _, h⟩ | ⟨hc, _, _, _, h⟩ | ⟨_, _, _, _, h⟩ | ⟨_, _, h1, h2, _, _, h⟩
          · omega
          · omega
          · omega
          · exact ⟨mm - 1, by omega, h⟩
        · exact ⟨u', by omega, s3⟩
        · have := no _ (by omega) s1.2.1; omega
    have n2 : A 3 nd = hz_n 1 → ∃ c : Nat, c < 1000 ∧ A 2 p = hz_n c := by
      intro h1
      have no : ∀ o : Nat, o < 100 → A 3 nd = hz_n o → o = 1 := fun o ho h => by
        rw [h1] at h; have := zn_inj (by omega) (by omega) h; omega
      rcases q7 with q7 | ⟨o, mm, qs, js, ks, scs, q7⟩
      · rcases q7 with ⟨v, v1, v2, v3, v4⟩ | ⟨v, v1, h, h'⟩ | ⟨v, v1, h, h'⟩ | h
        · cases hq : sc v with
          | some b => exact ⟨b, by have := q6 v b hq; omega, by rw [v4]; unfold qsc; rw [hq]⟩
          | none =>
            refine absurd ?_ (hns nd q2)
            refine ⟨v2.2.1, ?_⟩
            rw [v2.2.2, zN p (by omega), v4]
            unfold qsc; rw [hq]
        · have := no _ (by omega) h.2.1; omega
        · have := no _ (by omega) h.2.1; omega
        · have := no _ (by omega) h.2.1; omega
      · rcases q7.2.2.2.2.1 with ⟨c, o', e, s1, s2, s3, s4⟩ | ⟨v', u', sv, su, s1, s2, s3, _⟩ | ⟨v', sv, s1, s2, _⟩
        · have := no o' (by unfold qKind at s1; omega) s2.2.1
          unfold qKind at s1; omega
        · have := no _ (by omega) s1.2.1; omega
        · have := no _ (by omega) s1.2.1; omega
    have hl3 := hlt nd q2
    refine ⟨by rw [zn]; omega, by rw [zpc]; omega, by rw [e_nd]; omega, by rw [e_ro]; exact ro3, ?_, ?_, ?_, fun h => ?_, ?_, fun h => ?_, fun h => ?_, shp⟩
    · rw [e_sg]; exact hA p
    · show A 1 p = _; rw [e_nx, q4, zN nx (by omega)]
    · rw [e_nx, q4, zN nx (by omega)]; exact q3
    · show A 2 p = _
      rw [e_bi]
      obtain ⟨c, c1, c2⟩ := n3
      rw [e_op, c2, zN c (by omega)] at h
      subst h
      exact num 2 p (n2 c2)
    · rw [e_nd, e_op]; rw [hl3.1]; exact num 3 nd n3
    · rw [e_nd, e_vl, hl3.2.1]
      exact num 4 nd (n4 (fun h4 => h (by rw [e_op, h4]; exact zN 4 (by omega))))
    · rw [e_nd, e_mo, hl3.2.2]
      refine num 5 nd (n5 ?_)
      obtain ⟨c, c1, c2⟩ := n3
      rw [e_op, c2, zN c (by omega)] at h
      rcases h with h | h
      · subst h; exact .inl c2
      · subst h; exact .inr c2
  · have h1 : sumN (fun p => ind (s_cl (qS S0 l t m N A Tb) l p = 2)) 40 ≤ sumN (fun p => ind (p < m)) 40 + qCn Tb := by
      unfold qCn
      rw [← sumN_add]
      refine sumN_le (fun p _ => ind_or (fun hp => ?_))
      by_cases hpm : p < m
      · exact .inl hpm
      · obtain ⟨nd, pa, ro, sc, e⟩ := cl_of p 2 hp (by omega) hpm
        exact .inr ⟨_, e, rfl⟩
    rw [sumN_lt (by omega)] at h1
    omega
  · rw [zpc, r_op] at hop
    rw [zn, zpc]
    rcases qW_kd hw with ⟨a1, _⟩ | ⟨mm, qs, js, ks, scs, h, hs⟩
    · omega
    · exfalso
      have no : ∀ o : Nat, 5 ≤ o → o < 100 → A 3 0 ≠ hz_n o := fun o h1 h2 h => by rw [h, zN o (by omega)] at hop; omega
      rcases hs with ⟨c, o', e, s1, s2, s3, s4⟩ | ⟨v', u', sv, su, s1, s2, s3, _⟩ | ⟨v', sv, s1, s2, _⟩
      · exact no o' (by unfold qKind at s1; omega) (by unfold qKind at s1; omega) s2.2.1
      · exact no 9 (by omega) (by omega) s1.2.1
      · exact no 10 (by omega) (by omega) s1.2.1
  · have hqm : ¬ q < m := fun h => by have := cl q h; omega
    obtain ⟨nd, pa, ro, sc, e⟩ := cl_of q 1 hq (by omega) hqm
    obtain ⟨e_nd, e_cl, e_pa, e_ro, _⟩ := qS_e (S := S0) (l := l) (t := t) (N := N) (A := A) e hqm
    have hne : q ≠ m + 1 := fun h => by subst h; omega
    have ro2 : ro = 2 := by omega
    obtain ⟨p1, p2, ⟨r1, p3, p4⟩, r2, p5, p6, p7⟩ := (b4 q _ e hne).2 ro2
    have x1 := (qS_e (S := S0) (l := l) (t := t) (N := N) (A := A) (p := q - 1) (c := r1.1) (nd := r1.2.1) (pa := r1.2.2.1) (ro := r1.2.2.2.1) (sc := r1.2.2.2.2) p3 (hd _ _ p3)).2.1
    have x2 := qS_e (S := S0) (l := l) (t := t) (N := N) (A := A) (p := q - 2) (c := r2.1) (nd := r2.2.1) (pa := r2.2.2.1) (ro := r2.2.2.2.1) (sc := r2.2.2.2.2) p5 (hd _ _ p5)
    refine ⟨p1, x1.trans p4, e_pa.trans p2, x2.2.1.trans p6, ?_⟩
    rw [x2.2.2.2.2.2.2.2.2.1, p7]; exact zN 10 (by omega)
-- a ghost speaks of its letter
theorem s_arg_S {S S' : zG} {l p : Nat} (h : ∀ r p, S'.1 r l p = S.1 r l p) : ∀ j, s_arg S' l p j = s_arg S l p j
  | 0 => rfl
  | j + 1 => by
    show s_nx S' l (s_arg S' l p j) = s_nx S l (s_arg S l p j)
    rw [s_arg_S h j]; exact h 6 _
theorem s_lp_S {S S' : zG} {l v : Nat} (h : ∀ r p, S'.1 r l p = S.1 r l p) : ∀ k, s_lp S' l v k = s_lp S l v k
  | 0 => rfl
  | k + 1 => by
    show (if s_vl S' l k = v then some k else s_lp S' l v k) = (if s_vl S l k = v then some k else s_lp S l v k)
    rw [s_lp_S h k, show s_vl S' l k = s_vl S l k from h 9 k]
theorem bDef_S {ST : Nat → Nat → Int32} {F l : Nat} {S S' : zG} {T : zT} (h : ∀ r p, S'.1 r l p = S.1 r l p) (h2 : ∀ p, S'.2 l p = S.2 l p) : bDef ST F S T l → bDef ST F S' T l := by
  have e0 : ∀ p, s_nd S' l p = s_nd S l p := h 0
  have e1 : ∀ p, s_cl S' l p = s_cl S l p := h 1
  have e2 : ∀ p, s_pa S' l p = s_pa S l p := h 2
  have e3 : ∀ p, s_ro S' l p = s_ro S l p := h 3
  have e4 : ∀ p, s_ow S' l p = s_ow S l p := h 4
  have e5 : ∀ p, s_sg S' l p = s_sg S l p := h 5
  have e6 : ∀ p, s_nx S' l p = s_nx S l p := h 6
  have e7 : ∀ p, s_bi S' l p = s_bi S l p := h 7
  have e8 : ∀ p, s_op S' l p = s_op S l p := h 8
  have e9 : ∀ p, s_vl S' l p = s_vl S l p := h 9
  have ea : ∀ p, s_mo S' l p = s_mo S l p := h 10
  have eb : s_pc S' l = s_pc S l := h 11 0
  have ec : s_n S' l = s_n S l := h 12 0
  have ed : ∀ p, s_sc S' l p = s_sc S l p := h2
  have ee : ∀ p j, s_arg S' l p j = s_arg S l p j := fun p j => s_arg_S h j
  have ef : ∀ v k, s_lp S' l v k = s_lp S l v k := fun v k => s_lp_S h k
  intro H
  unfold bDef bShp bKid at H ⊢
  simp only [e0, e1, e2, e3, e4, e5, e6, e7, e8, e9, ea, eb, ec, ed, ee, ef]
  exact H
theorem bCap_S {l : Nat} {S S' : zG} (h : ∀ r p, S'.1 r l p = S.1 r l p) : bCap S l → bCap S' l := by
  have e1 : ∀ p, s_cl S' l p = s_cl S l p := h 1
  have e2 : ∀ p, s_pa S' l p = s_pa S l p := h 2
  have e3 : ∀ p, s_ro S' l p = s_ro S l p := h 3
  have e8 : ∀ p, s_op S' l p = s_op S l p := h 8
  have eb : s_pc S' l = s_pc S l := h 11 0
  have ec : s_n S' l = s_n S l := h 12 0
  intro H
  unfold bCap at H ⊢
  simp only [e1, e2, e3, e8, eb, ec]
  exact H
-- all letters
def qAll (E : Nat → Option zT) (dfs : Nat → Option Nat) (ST : Nat → Nat → Int32) : Prop := ∀ l, l < 26 → (dfs l = none ∧ ST 18 l = hz_n 0) ∨ ∃ d T, dfs l = some d ∧ E d = some T ∧ ST 18 l = hz_n 1 ∧ qSrc ST T l
theorem qAll_sta {E : Nat → Option zT} {dfs : Nat → Option Nat} {ST : Nat → Nat → Int32} {F : Nat} (hF : 100 ≤ F) (h : qAll E dfs ST) : ∃ S, bSta E dfs ST F S ∧ ∀ l, l < 26 → dfs l ≠ none → bCap S l := by
  have key : ∀ l, ∃ S : zG, l < 26 → dfs l ≠ none → ∃ d T, dfs l = some d ∧ E d = some T ∧ ST 18 l = hz_n 1 ∧ bDef ST F S T l ∧ bCap S l := fun l => by
    by_cases hl : l < 26
    · rcases h l hl with ⟨h1, _⟩ | ⟨d, T, h1, h2, h3, h4⟩
      · exact ⟨(fun _ _ _ => 0, fun _ _ _ => none), fun _ hn => absurd h1 hn⟩
      · obtain ⟨S, h5, h6⟩ := qSrc_def hl hF h4
        exact ⟨S, fun _ _ => ⟨d, T, h1, h2, h3, h5, h6⟩⟩
    · exact ⟨(fun _ _ _ => 0, fun _ _ _ => none), fun h => absurd h hl⟩
  have G : ∀ l, l < 26 → dfs l ≠ none → ∃ d T, dfs l = some d ∧ E d = some T ∧ ST 18 l = hz_n 1 ∧ bDef ST F (Classical.choose (key l)) T l ∧ bCap (Classical.choose (key l)) l := fun l => Classical.choose_spec (key l)
  refine ⟨(fun r l p => (Classical.choose (key l)).1 r l p, fun l p => (Classical.choose (key l)).2 l p), fun l hl => ?_, fun l hl hn => ?_⟩
  · rcases h l hl with h1 | ⟨d0, T0, h1, _⟩
    · exact .inl h1
    · obtain ⟨d, T, g1, g2, g3, g4, g5⟩ := G l hl (by rw [h1]; intro e; cases e)
      exact .inr ⟨d, T, g1, g2, g3, bDef_S (S := Classical.choose (key l)) (fun _ _ => rfl) (fun _ => rfl) g4⟩
  · obtain ⟨d, T, g1, g2, g3, g4, g5⟩ := G l hl hn
    exact bCap_S (S := Classical.choose (key l)) (fun _ _ => rfl) g5

theorem qSrc_fr {ST ST' : Nat → Nat → Int32} {T : zT} {l : Nat} (h19 : ST' 19 l = ST 19 l) (h20 : ∀ k, k < 4 → ST' 20 (4 * l + k) = ST 20 (4 * l + k)) (h21 : ∀ a x, 21 ≤ a → a ≤ 23 → x < 40 → ST' a (40 * l + x) = ST a (40 * l + x)) (h : qSrc ST T l) : qSrc ST' T l := by
  obtain ⟨t, m, N, k', A, hN, hm, hmN, hk, ht, hA, hw, hnx, hpr, hns, hT, q19, q20, hlt⟩ := h
  refine ⟨t, m, N, k', A, hN, hm, hmN, hk, ht, hA, hw, hnx, hpr, hns, hT, by rw [h19]; exact q19, fun k hk => by rw [h20 k (by omega)]; exact q20 k hk, fun x hx => ?_⟩
  rw [h21 21 x (by omega) (by omega) (by omega), h21 22 x (by omega) (by omega) (by omega), h21 23 x (by omega) (by omega) (by omega)]
  exact hlt x hx
-- the reference copies what it read to the letter
theorem qdf2 {l : Nat} (hl : l < 26) : ∀ (r k f : Nat) (μ : zM), k + r = 40 → ∃ μ', m_df2 (hz_n l) (f + 1 + r) μ (hz_n k) = some (μ'.2 19 l, μ') ∧ μ'.1 = μ.1 ∧ (∀ a, a < 21 ∨ 23 < a → μ'.2 a = μ.2 a)
    ∧ ∀ a x, 21 ≤ a → a ≤ 23 → μ'.2 a x = if 40 * l + k ≤ x ∧ x < 40 * l + 40 then μ.2 a (1040 + (x - 40 * l)) else μ.2 a x
  | 0, k, f, μ, hk => by
    refine ⟨μ, ?_, rfl, fun _ _ => rfl, fun a x _ _ => by rw [if_neg (by omega)]⟩
    rw [Nat.add_zero, m_df2, zt k (by omega), if_pos (by omega), zt l (by omega), zgd_t (by omega), Int.toNat_natCast]
  | r + 1, k, f, μ, hk => by
    have ef : f + 1 + (r + 1) = (f + 1 + r) + 1 := by omega
    have e1 : hz_n 40 * hz_n l + hz_n k = hz_n (40 * l + k : Nat) := by rw [zn_mul, zn_add]; congr 1
    have e2 : hz_n 1040 + hz_n k = hz_n (1040 + k : Nat) := by rw [zn_add]; congr 1
    rw [ef, m_df2, zt k (by omega), if_neg (by omega), e1, e2, zt (40 * l + k) (by omega), zt (1040 + k) (by omega), zgd_t (by omega), zgd_t (by omega), Int.toNat_natCast, Int.toNat_natCast, zn1]
    generalize hμ1 : mA (mA (mA μ 21 (40 * l + k) (μ.2 21 (1040 + k))) 22 (40 * l + k) (μ.2 22 (1040 + k))) 23 (40 * l + k) (μ.2 23 (1040 + k)) = μ1
    have s0 : μ1.1 = μ.1 := by rw [← hμ1]; rfl
    have s1 : ∀ a, a < 21 ∨ 23 < a → μ1.2 a = μ.2 a := fun a ha => by rw [← hμ1, mA2n _ _ _ _ _ (by omega), mA2n _ _ _ _ _ (by omega), mA2n _ _ _ _ _ (by omega)]
    have s2 : ∀ a x, 21 ≤ a → a ≤ 23 → μ1.2 a x = if x = 40 * l + k then μ.2 a (1040 + k) else μ.2 a x := fun a x h1 h2 => by
      have : a = 21 ∨ a = 22 ∨ a = 23 := by omega
      rcases this with e | e | e
      · subst e; rw [← hμ1, mA2n _ _ _ _ _ (by decide), mA2n _ _ _ _ _ (by decide), mA2, if_pos rfl]
      · subst e; rw [← hμ1, mA2n _ _ _ _ _ (by decide), mA2, if_pos rfl, mA2n _ _ _ _ _ (by decide)]
      · subst e; rw [← hμ1, mA2, if_pos rfl, mA2n _ _ _ _ _ (by decide), mA2n _ _ _ _ _ (by decide)]
    obtain ⟨μ', i1, i2, i3, i4⟩ := qdf2 hl r (k + 1) f μ1 (by omega)
    refine ⟨μ', i1, by rw [i2, s0], fun a ha => by rw [i3 a ha, s1 a ha], fun a x h1 h2 => ?_⟩
    rw [i4 a x h1 h2]
    by_cases hx : 40 * l + (k + 1) ≤ x ∧ x < 40 * l + 40
    · rw [if_pos hx, if_pos (by omega), s2 a _ h1 h2, if_neg (by omega)]
    · rw [if_neg hx, s2 a x h1 h2]
      by_cases hx2 : x = 40 * l + k
      · have e : 40 * l + k - 40 * l = k := by omega
        rw [if_pos hx2, if_pos (by omega), hx2, e]
      · rw [if_neg hx2, if_neg (by omega)]
theorem qdf1 {l F : Nat} (hl : l < 26) (hF : 100 ≤ F) : ∀ (r k f : Nat) (μ : zM), k + r = 4 → ∃ μ', m_df1 F (hz_n l) (f + 1 + r) μ (hz_n k) = some (μ'.2 19 l, μ') ∧ μ'.1 = μ.1 ∧ (∀ a, a < 20 ∨ 23 < a → μ'.2 a = μ.2 a)
    ∧ (∀ x, μ'.2 20 x = if 4 * l + k ≤ x ∧ x < 4 * l + 4 then μ.2 20 (104 + (x - 4 * l)) else μ.2 20 x) ∧ ∀ a x, 21 ≤ a → a ≤ 23 → μ'.2 a x = if 40 * l ≤ x ∧ x < 40 * l + 40 then μ.2 a (1040 + (x - 40 * l)) else μ.2 a x
  | 0, k, f, μ, hk => by
    obtain ⟨μ', i1, i2, i3, i4⟩ := qdf2 hl 40 0 (F - 41) μ (by omega)
    have ef : F - 41 + 1 + 40 = F := by omega
    rw [ef] at i1
    refine ⟨μ', ?_, i2, fun a ha => i3 a (by omega), fun x => by rw [i3 20 (by omega), if_neg (by omega)], i4⟩
    rw [Nat.add_zero, m_df1, zt k (by omega), if_pos (by omega)]; exact i1
  | r + 1, k, f, μ, hk => by
    have ef : f + 1 + (r + 1) = (f + 1 + r) + 1 := by omega
    have e1 : hz_n 4 * hz_n l + hz_n k = hz_n (4 * l + k : Nat) := by rw [zn_mul, zn_add]; congr 1
    have e2 : hz_n 104 + hz_n k = hz_n (104 + k : Nat) := by rw [zn_add]; congr 1
    rw [ef, m_df1, zt k (by omega), if_neg (by omega), e1, e2, zt (4 * l + k) (by omega), zt (104 + k) (by omega), zgd_t (by omega), zgd_t (by omega), Int.toNat_natCast, Int.toNat_natCast, zn1]
    generalize hμ1 : mA μ 20 (4 * l + k) (μ.2 20 (104 + k)) = μ1
    have s1 : ∀ a, a ≠ 20 → μ1.2 a = μ.2 a := fun a ha => by rw [← hμ1, mA2n _ _ _ _ _ ha]
    have s2 : ∀ x, μ1.2 20 x = if x = 4 * l + k then μ.2 20 (104 + k) else μ.2 20 x := fun x => by rw [← hμ1, mA2, if_pos rfl]
    obtain ⟨μ', i1, i2, i3, i4, i5⟩ := qdf1 hl hF r (k + 1) f μ1 (by omega)
    refine ⟨μ', i1, by rw [i2, ← hμ1]; rfl, fun a ha => by rw [i3 a ha, s1 a (by omega)], fun x => ?_, fun a x h1 h2 => by rw [i5 a x h1 h2, s1 a (by omega)]⟩
    rw [i4 x]
    by_cases hx : 4 * l + (k + 1) ≤ x ∧ x < 4 * l + 4
    · rw [if_pos hx, if_pos (by omega), s2, if_neg (by omega)]
    · rw [if_neg hx, s2]
      by_cases hx2 : x = 4 * l + k
      · have e : 4 * l + k - 4 * l = k := by omega
        rw [if_pos hx2, if_pos (by omega), hx2, e]
      · rw [if_neg hx2, if_neg (by omega)]
-- define: both answer alike, and what both hold of the letters fits
def qDfF (μ μ' : zM) : Prop := (∀ n, n ≠ 10 → n ≠ 11 → n ≠ 13 → n ≠ 14 → μ'.1 n = μ.1 n) ∧ μ'.1 10 = hz_n 0 ∧ μ'.1 11 = hz_n 0 ∧ ∀ a, a < 18 ∨ 27 < a → μ'.2 a = μ.2 a
def qDfL (μ μ' : zM) (l : Nat) : Prop := μ'.2 18 l = μ.2 18 l ∧ μ'.2 19 l = μ.2 19 l ∧ (∀ k, k < 4 → μ'.2 20 (4 * l + k) = μ.2 20 (4 * l + k)) ∧ ∀ a x, 21 ≤ a → a ≤ 23 → x < 40 → μ'.2 a (40 * l + x) = μ.2 a (40 * l + x)
theorem qDefine {t : Nat → Nat} {F N l : Nat} {ρ μ : zM} (H : qHy t N F) (hl : l < 26) (hρ : qRi t ρ) (h11 : μ.1 11 = hz_n N) (h16 : ∀ p, p < N → μ.2 16 p = hz_n (t p)) :
    ∃ a ρ' μ', r_read N ρ = some (a, ρ') ∧ m_define μ F (hz_n (65 + l : Nat)) = some (a, μ') ∧ qDfF μ μ' ∧ ((a.toInt < 0 ∧ ∀ l, l < 26 → qDfL μ μ' l)
      ∨ (0 ≤ a.toInt ∧ (∀ l', l' < 26 → l' ≠ l → qDfL μ μ' l') ∧ μ'.2 18 l = hz_n 1 ∧ qSrc μ'.2 (N, ρ'.2 0, ρ'.2 1, ρ'.2 2, ρ'.1 0) l)) := by
  obtain ⟨hT, hN, hF⟩ := H
  obtain ⟨a, ρ', e1, oc⟩ := qTop (F := F) (μ := mS μ 10 (hz_n 0)) ⟨hT, hN, hF⟩ hρ h11 h16
  have z65 : (hz_n (65 + l : Nat)).toInt = (65 + l : Nat) := zt _ (by omega)
  have ex : hz_n (65 + l : Nat) - hz_n 65 = hz_n l := by rw [zn_sub]; congr 1; omega
  have fr : ∀ μ2, qMD (mS (mS μ 10 (hz_n 0)) 11 (hz_n 0)) μ2 → qDfF μ μ2 ∧ ∀ l, l < 26 → qDfL μ μ2 l := fun μ2 hd => by
    refine ⟨⟨fun n h1 h2 h3 h4 => ?_, ?_, ?_, fun a ha => ?_⟩, fun l hl => ⟨?_, ?_, fun k hk => ?_, fun a x h1 h2 h3 => ?_⟩⟩
    · rw [hd.1 n h3 h4, mS1, if_neg h2, mS1, if_neg h1]
    · rw [hd.1 10 (by decide) (by decide), mS1, if_neg (by decide), mS1, if_pos rfl]
    · rw [hd.1 11 (by decide) (by decide), mS1, if_pos rfl]
    · rw [hd.2.1 a (by omega)]; rfl
    · rw [hd.2.1 18 (by omega)]; rfl
    · rw [hd.2.2.1 l (by omega)]; rfl
    · rw [hd.2.2.2.1 _ (by omega)]; rfl
    · rw [hd.2.2.2.2 a _ h1 h2 (by omega)]; rfl
  have neg : ∀ z : Int, z < 0 → -1000 ≤ z → ∀ μ2, qMD (mS (mS μ 10 (hz_n 0)) 11 (hz_n 0)) μ2 → m_read (mS μ 10 (hz_n 0)) F = some (hz_n z, μ2) → ∃ μ', m_define μ F (hz_n (65 + l : Nat)) = some (hz_n z, μ') ∧ qDfF μ μ' ∧ (hz_n z).toInt < 0 ∧ ∀ l, l < 26 → qDfL μ μ' l := fun z hz hz' μ2 hd hr => by
    have zz : (hz_n z).toInt = z := zn_ti (by omega)
    refine ⟨μ2, ?_, (fr μ2 hd).1, by omega, (fr μ2 hd).2⟩
    unfold m_define
    rw [z65, if_pos (by omega), hr, Option.bind_some]
    dsimp only
    rw [zz, if_pos hz]
  rcases oc with ⟨j, μ2, hj, ha, hr, hd⟩ | ⟨m, k', μ2, dn, hr, ha⟩
  · subst ha
    obtain ⟨μ', n1, n2, n3, n4⟩ := neg _ (by omega) (by omega) μ2 hd hr
    exact ⟨_, ρ', μ', e1, n1, n2, .inl ⟨n3, n4⟩⟩
  · have hd := dn.2.2.2.2.2.2.2.2.2.1
    rcases qrd2 hN hF dn with ⟨s1, s2⟩ | ⟨p, p1, p2, p3⟩
    · have zm1 : (hz_n (-1)).toInt = -1 := zn_ti (by omega)
      rw [s1, zm1, if_pos rfl] at ha
      subst ha
      obtain ⟨hm, hmN, hk, hw, hnx, h0, h00, hfs, h13, _, h19, h20⟩ := dn
      have zm : (hz_n (m : Int)).toInt = m := zt m (by omega)
      generalize hμ3 : mA (mA μ2 18 l (hz_n 1)) 19 l (μ2.2 19 26) = μ3
      obtain ⟨μ', i1, i2, i3, i4, i5⟩ := qdf1 hl hF 4 0 (F - 5) μ3 (by omega)
      have ef : F - 5 + 1 + 4 = F := by omega
      rw [ef] at i1
      have s18 : ∀ x, μ3.2 18 x = if x = l then hz_n 1 else μ2.2 18 x := fun x => by rw [← hμ3, mA2n _ _ _ _ _ (by decide), mA2, if_pos rfl]
      have s19 : ∀ x, μ3.2 19 x = if x = l then μ2.2 19 26 else μ2.2 19 x := fun x => by rw [← hμ3, mA2, if_pos rfl, mA2n _ _ _ _ _ (by decide)]
      have sA : ∀ a, a ≠ 18 → a ≠ 19 → μ3.2 a = μ2.2 a := fun a h1 h2 => by rw [← hμ3, mA2n _ _ _ _ _ h2, mA2n _ _ _ _ _ h1]
      have s0 : μ3.1 = μ2.1 := by rw [← hμ3]; rfl
      have w19 : μ'.2 19 l = hz_n m := by rw [i3 19 (by omega), s19, if_pos rfl, h19]
      obtain ⟨f1, f2⟩ := fr μ2 hd
      refine ⟨hz_n m, ρ', μ', e1, ?_, ⟨fun n h1 h2 h3 h4 => ?_, ?_, ?_, fun a ha => ?_⟩, .inr ⟨by omega, fun l' hl' hne => ?_, ?_, ?_⟩⟩
      · unfold m_define
        rw [z65, if_pos (by omega), hr, s2, Option.bind_some]
        dsimp only
        rw [zti0, if_neg (by omega), ex, zt l (by omega), zgd_t (by omega), Int.toNat_natCast, hμ3]
        have i1' : m_df1 F (hz_n l) F μ3 (hz_n 0) = some (μ'.2 19 l, μ') := i1
        rw [i1', w19]
      · rw [i2, s0]; exact f1.1 n h1 h2 h3 h4
      · rw [i2, s0]; exact f1.2.1
      · rw [i2, s0]; exact f1.2.2.1
      · rw [i3 a (by omega), sA a (by omega) (by omega)]; exact f1.2.2.2 a ha
      · obtain ⟨g1, g2, g3, g4⟩ := f2 l' hl'
        refine ⟨?_, ?_, fun k hk => ?_, fun a x h1 h2 h3 => ?_⟩
        · rw [i3 18 (by omega), s18, if_neg hne]; exact g1
        · rw [i3 19 (by omega), s19, if_neg hne]; exact g2
        · rw [i4, if_neg (by omega), sA 20 (by decide) (by decide)]; exact g3 k hk
        · rw [i5 a _ h1 h2, if_neg (by omega), sA a (by omega) (by omega)]; exact g4 a x h1 h2 h3
      · rw [i3 18 (by omega), s18, if_pos rfl]
      · refine ⟨t, m, N, k', qA ρ' μ2, hN, hm, hmN, by omega, hT, fun p => ?_, hw, hnx, fun k hk => (h20 k hk).2, ?_, ?_, w19, fun k hk => ?_, fun x hx => ?_⟩
        · show ρ'.2 0 p = _; rw [h00]; rfl
        · rcases hfs.2.2 rfl with ⟨_, h⟩ | ⟨x, x1, x2, x3, x4, _⟩
          · exact fun x hx => h x (Nat.zero_le _) hx
          · obtain ⟨p, p1, p2⟩ := hfs.1 x x1 x2
            rw [s1, p2] at x4
            have := zn_inj (by omega) (by omega) x4
            omega
        · rw [h0]; rfl
        · rw [i4, if_pos (by omega), sA 20 (by decide) (by decide)]
          have : 4 * l + k - 4 * l = k := by omega
          rw [this]; exact (h20 k hk).1
        · have e : 40 * l + x - 40 * l = x := by omega
          rw [i5 21 _ (by omega) (by omega), i5 22 _ (by omega) (by omega), i5 23 _ (by omega) (by omega), if_pos (by omega), if_pos (by omega), if_pos (by omega), e, sA 21 (by decide) (by decide), sA 22 (by decide) (by decide), sA 23 (by decide) (by decide)]
          exact ⟨rfl, rfl, rfl⟩
    · have zp : (hz_n (p : Int)).toInt = p := zt p (by omega)
      rw [p2, zp, if_neg (by omega), zn_sub] at ha
      subst ha
      obtain ⟨μ', n1, n2, n3, n4⟩ := neg (-100 - (p : Int)) (by omega) (by omega) μ2 hd (by rw [hr]; exact p3)
      exact ⟨_, ρ', μ', e1, n1, n2, .inl ⟨n3, n4⟩⟩

-- what holds of both between two calls of the law
def jT (κ : zK) (μ : zM) : Prop := ∃ (N : Nat) (t : Nat → Nat), N ≤ 40 ∧ κ.1 0 = hz_n N ∧ μ.1 11 = hz_n N ∧ ∀ p, p < 40 → t p ≤ 126 ∧ κ.2.1 1 p = hz_n (t p) ∧ μ.2 16 p = hz_n (t p)
def jI (E : Nat → Option zT) (κ : zK) (μ : zM) : Prop := jT κ μ ∧ (∃ n, bPg κ μ n) ∧ κ.1 4 = μ.1 20 ∧ qAll E (κ.2.2 3) μ.2
theorem qAll_fr {E E' : Nat → Option zT} {dfs : Nat → Option Nat} {ST ST' : Nat → Nat → Int32} (hE : ∀ l d, l < 26 → dfs l = some d → E' d = E d) (h18 : ∀ l, l < 26 → ST' 18 l = ST 18 l) (h19 : ∀ l, l < 26 → ST' 19 l = ST 19 l) (h20 : ∀ l k, l < 26 → k < 4 → ST' 20 (4 * l + k) = ST 20 (4 * l + k)) (h21 : ∀ l a x, l < 26 → 21 ≤ a → a ≤ 23 → x < 40 → ST' a (40 * l + x) = ST a (40 * l + x)) (h : qAll E dfs ST) : qAll E' dfs ST' := by
  intro l hl
  rcases h l hl with ⟨h1, h2⟩ | ⟨d, T, h1, h2, h3, h4⟩
  · exact .inl ⟨h1, by rw [h18 l hl]; exact h2⟩
  · exact .inr ⟨d, T, h1, by rw [hE l d hl h1]; exact h2, by rw [h18 l hl]; exact h3, qSrc_fr (h19 l hl) (fun k hk => h20 l k hl hk) (fun a x h1 h2 h3 => h21 l a x hl h1 h2 h3) h4⟩
theorem qAll_L {E : Nat → Option zT} {dfs : Nat → Option Nat} {μ μ' : zM} (hf : ∀ l, l < 26 → qDfL μ μ' l) (h : qAll E dfs μ.2) : qAll E dfs μ'.2 :=
  qAll_fr (fun _ _ _ _ => rfl) (fun l hl => (hf l hl).1) (fun l hl => (hf l hl).2.1) (fun l k hl hk => (hf l hl).2.2.1 k hk) (fun l a x hl h1 h2 h3 => (hf l hl).2.2.2 a x h1 h2 h3) h
-- the reference's own numbers but the text, the page and the count of entries do not matter
theorem jI_S {E : Nat → Option zT} {κ : zK} {μ : zM} {a : Nat} {x : Int32} (ha : a ≠ 11 ∧ a ≠ 12 ∧ a ≠ 20) (h : jI E κ μ) : jI E κ (mS μ a x) := by
  obtain ⟨⟨N, t, h1, h2, h3, h4⟩, ⟨n, p1, p2, p3, p4⟩, h5, h6⟩ := h
  refine ⟨⟨N, t, h1, h2, ?_, h4⟩, ⟨n, p1, p2, ?_, p4⟩, ?_, h6⟩
  · rw [mS1, if_neg (fun e => ha.1 e.symm)]; exact h3
  · rw [mS1, if_neg (fun e => ha.2.1 e.symm)]; exact p3
  · rw [mS1, if_neg (fun e => ha.2.2 e.symm)]; exact h5
theorem jType {E : Nat → Option zT} {κ : zK} {μ : zM} {x : Int32} (hx : 0 ≤ x.toInt ∧ x.toInt < 65536) (h : jI E κ μ) :
    (0 ≤ (κ.1 0).toInt) ∧ (0 ≤ (μ.1 11).toInt ∧ (μ.1 11).toInt ≤ 40) ∧ (if x.toInt < 32 ∨ 126 < x.toInt ∨ 40 ≤ (κ.1 0).toInt then hz_n 0 else hz_n 1) = (if x.toInt < 32 ∨ 126 < x.toInt ∨ (μ.1 11).toInt = 40 then hz_n 0 else hz_n 1)
    ∧ jI E (if x.toInt < 32 ∨ 126 < x.toInt ∨ 40 ≤ (κ.1 0).toInt then κ else kS (kA κ 1 (κ.1 0).toInt.toNat x) 0 (κ.1 0 + hz_n 1)) (if x.toInt < 32 ∨ 126 < x.toInt ∨ (μ.1 11).toInt = 40 then mS μ 10 (hz_n 0) else mS (mA (mS μ 10 (hz_n 0)) 16 (μ.1 11).toInt.toNat x) 11 (μ.1 11 + hz_n 1)) := by
  have h' := h
  obtain ⟨⟨N, t, h1, h2, h3, h4⟩, ⟨n, p1, p2, p3, p4⟩, h5, h6⟩ := h
  have zN : (hz_n (N : Int)).toInt = N := zt N (by omega)
  rw [h2, h3, zN]
  refine ⟨by omega, by omega, ?_, ?_⟩
  · by_cases hc : x.toInt < 32 ∨ 126 < x.toInt ∨ (40 : Int) ≤ (N : Int)
    · rw [if_pos hc, if_pos (by omega)]
    · rw [if_neg hc, if_neg (by omega)]
  · by_cases hc : x.toInt < 32 ∨ 126 < x.toInt ∨ (40 : Int) ≤ (N : Int)
    · rw [if_pos hc, if_pos (by omega)]
      exact jI_S (by decide) h'
    · rw [if_neg hc, if_neg (by omega), Int.toNat_natCast, zn1]
      refine ⟨⟨N + 1, fun p => if p = N then x.toInt.toNat else t p, by omega, rfl, rfl, fun p hp => ?_⟩, ⟨n, p1, p2, p3, fun j hj => ?_⟩, h5, ?_⟩
      · show (if p = N then x.toInt.toNat else t p) ≤ 126 ∧ (kA κ 1 N x).2.1 1 p = hz_n ((if p = N then x.toInt.toNat else t p : Nat) : Int) ∧ (mA (mS μ 10 (hz_n 0)) 16 N x).2 16 p = hz_n ((if p = N then x.toInt.toNat else t p : Nat) : Int)
        rw [kA2, if_pos rfl, mA2, if_pos rfl]
        by_cases e : p = N
        · rw [if_pos e, if_pos e, if_pos e]
          have : hz_n (x.toInt.toNat : Nat) = x := by
            have e1 : ((x.toInt.toNat : Nat) : Int) = x.toInt := by omega
            rw [e1]; exact zn_of x
          exact ⟨by omega, this.symm, this.symm⟩
        · rw [if_neg e, if_neg e, if_neg e]; exact h4 p hp
      · show (kA κ 1 N x).2.1 13 j = (mA (mS μ 10 (hz_n 0)) 16 N x).2 17 j
        rw [kA2n _ _ _ _ _ (by decide), mA2n _ _ _ _ _ (by decide)]; exact p4 j hj
      · refine qAll_L (μ := μ) (fun l hl => ?_) h6
        refine ⟨?_, ?_, fun k hk => ?_, fun a x h1 h2 h3 => ?_⟩
        · show (mA (mS μ 10 (hz_n 0)) 16 N x).2 18 l = _; rw [mA2n _ _ _ _ _ (by decide)]; rfl
        · show (mA (mS μ 10 (hz_n 0)) 16 N x).2 19 l = _; rw [mA2n _ _ _ _ _ (by decide)]; rfl
        · show (mA (mS μ 10 (hz_n 0)) 16 N x).2 20 _ = _; rw [mA2n _ _ _ _ _ (by decide)]; rfl
        · show (mA (mS μ 10 (hz_n 0)) 16 N _).2 a _ = _; rw [mA2n _ _ _ _ _ (by omega)]; rfl
theorem jWipe {E : Nat → Option zT} {κ : zK} {μ : zM} (h : jI E κ μ) : κ.1 0 = μ.1 11 ∧ jI E (kS κ 0 (hz_n 0)) (mS (mS μ 10 (hz_n 0)) 11 (hz_n 0)) := by
  obtain ⟨⟨N, t, h1, h2, h3, h4⟩, ⟨n, p1, p2, p3, p4⟩, h5, h6⟩ := h
  exact ⟨h2.trans h3.symm, ⟨0, t, by omega, rfl, rfl, h4⟩, ⟨n, p1, p2, p3, p4⟩, h5, h6⟩
theorem jParam {E : Nat → Option zT} {κ : zK} {μ : zM} {x : Int32} (h : jI E κ μ) : ∃ v, g_parameters κ E x = some v ∧ m_parameters μ x = some (v, mS μ 10 (hz_n 0)) := by
  obtain ⟨_, _, _, h6⟩ := h
  unfold g_parameters m_parameters
  by_cases hx : 65 ≤ x.toInt ∧ x.toInt ≤ 90
  · have ex : x - hz_n 65 = hz_n (x.toInt.toNat - 65 : Nat) := by
      have : x = hz_n x.toInt := (zn_of x).symm
      rw [this, zn_sub, zn_ti (by omega)]; congr 1; omega
    have hl : x.toInt.toNat - 65 < 26 := by omega
    rw [if_pos hx, if_pos hx, ex]
    generalize x.toInt.toNat - 65 = l at *
    unfold g_parameterCount
    rw [zt l (by omega), zgd_t (by omega), zgd_t (by omega), Int.toNat_natCast]
    rcases h6 l hl with ⟨h1, h2⟩ | ⟨d, T, h1, h2, h3, h4⟩
    · rw [h1, h2, zti0, if_pos rfl]
      exact ⟨_, rfl, rfl⟩
    · obtain ⟨t, m, N, k', A, _, _, _, _, _, _, _, _, _, _, hT, h19, _⟩ := h4
      rw [h1, h3, zt1, if_neg (by omega)]
      dsimp only
      rw [h2, Option.bind_some, hT, h19]
      exact ⟨_, rfl, rfl⟩
  · rw [if_neg hx, if_neg hx]
    exact ⟨_, rfl, rfl⟩
theorem jForget {E : Nat → Option zT} {κ : zK} {μ : zM} {l : Nat} (hl : l < 26) (h : jI E κ μ) : (κ.2.2 3 l = none ∧ m_forget μ (hz_n (65 + l : Nat)) = some (mS μ 10 (hz_n 2))) ∨ ∃ μ', κ.2.2 3 l ≠ none ∧ m_forget μ (hz_n (65 + l : Nat)) = some μ' ∧ μ'.1 10 = hz_n 0 ∧ jI E (kQ κ 3 l none) μ' := by
  obtain ⟨⟨N, t, h1, h2, h3, h4⟩, ⟨n, p1, p2, p3, p4⟩, h5, h6⟩ := h
  have z65 : (hz_n (65 + l : Nat)).toInt = (65 + l : Nat) := zt _ (by omega)
  have ex : hz_n (65 + l : Nat) - hz_n 65 = hz_n l := by rw [zn_sub]; congr 1; omega
  unfold m_forget
  rw [z65, if_pos (by omega), ex, zt l (by omega), zgd_t (by omega), Int.toNat_natCast]
  rcases h6 l hl with ⟨q1, q2⟩ | ⟨d, T, q1, q2, q3, q4⟩
  · exact .inl ⟨q1, by rw [q2, zti0, if_pos rfl]⟩
  · refine .inr ⟨mA (mS μ 10 (hz_n 0)) 18 l (hz_n 0), (by rw [q1]; intro e; cases e), by rw [q3, zt1, if_neg (by omega)], rfl, ⟨N, t, h1, h2, h3, fun p hp => ?_⟩, ⟨n, p1, p2, p3, fun j hj => ?_⟩, h5, fun l' hl' => ?_⟩
    · rw [mA2n _ _ _ _ _ (by decide)]; exact h4 p hp
    · show κ.2.1 13 j = _; rw [mA2n _ _ _ _ _ (by decide)]; exact p4 j hj
    · rw [kQ3, if_pos rfl]
      by_cases e : l' = l
      · rw [if_pos e]
        refine .inl ⟨rfl, ?_⟩
        rw [mA2, if_pos rfl, if_pos e]
      · rw [if_neg e]
        rcases h6 l' hl' with ⟨r1, r2⟩ | ⟨d', T', r1, r2, r3, r4⟩
        · refine .inl ⟨r1, ?_⟩
          rw [mA2, if_pos rfl, if_neg e]; exact r2
        · refine .inr ⟨d', T', r1, r2, ?_, qSrc_fr (ST := μ.2) ?_ (fun k hk => ?_) (fun a x x1 x2 x3 => ?_) r4⟩
          · rw [mA2, if_pos rfl, if_neg e]; exact r3
          · rw [mA2n _ _ _ _ _ (by decide)]; rfl
          · rw [mA2n _ _ _ _ _ (by decide)]; rfl
          · rw [mA2n _ _ _ _ _ (by omega)]; rfl
theorem jRun {E : Nat → Option zT} {κ : zK} {μ : zM} {l am F : Nat} (hF : 951 ≤ F) (hl : l < 26) (ham : 1 ≤ am ∧ am ≤ 50) (h : jI E κ μ) : (κ.2.2 3 l = none ∧ ∀ N, m_run μ F N (hz_n (65 + l : Nat)) (hz_n am) = some (hz_n 0, mS μ 10 (hz_n 2)))
    ∨ ∃ κ1 κ2 N v μ', κ.2.2 3 l ≠ none ∧ g_begin κ (hz_n l) (hz_n am) = some κ1 ∧ g_write κ1 E = some κ2 ∧ m_run μ F N (hz_n (65 + l : Nat)) (hz_n am) = some (v, μ') ∧ μ'.1 10 = hz_n 0 ∧ v = (if (κ2.1 5).toInt = 0 then κ2.1 6 else κ2.1 5) ∧ jI E κ2 μ' := by
  obtain ⟨⟨N, t, h1, h2, h3, h4⟩, ⟨n, p1, p2, p3, p4⟩, h5, h6⟩ := h
  have z65 : (hz_n (65 + l : Nat)).toInt = (65 + l : Nat) := zt _ (by omega)
  have ex : hz_n (65 + l : Nat) - hz_n 65 = hz_n l := by rw [zn_sub]; congr 1; omega
  have mr : ∀ N, m_run μ F N (hz_n (65 + l : Nat)) (hz_n am) = if (μ.2 18 l).toInt = 0 then some (hz_n 0, mS μ 10 (hz_n 2)) else m_r1 F N (hz_n (65 + l : Nat)) 30 (mS (mS (mS (mS (mS (mS (mS (mS (mS μ 10 (hz_n 0)) 12 (hz_n 0)) 20 (hz_n 0)) 19 (hz_n am)) 21 (hz_n 0)) 15 (hz_n 0)) 16 (hz_n 0)) 17 (hz_n 0)) 18 (hz_n 0)) (hz_n 0) := fun N => by
    unfold m_run
    rw [z65, if_pos (by omega), zt am (by omega), if_neg (by omega), if_pos (by omega), ex, zt l (by omega), zgd_t (by omega), Int.toNat_natCast]
  rcases h6 l hl with ⟨q1, q2⟩ | ⟨d, T, q1, q2, q3, q4⟩
  · exact .inl ⟨q1, fun N => by rw [mr, q2, zti0, if_pos rfl]⟩
  · obtain ⟨S, s1, s2⟩ := qAll_sta (F := F) (by omega) h6
    obtain ⟨κ1, κ2, N', r, μ', b1, b2, b3, b4, b5⟩ := bRunT (μ := mS (mS (mS (mS (mS (mS (mS (mS (mS μ 10 (hz_n 0)) 12 (hz_n 0)) 20 (hz_n 0)) 19 (hz_n am)) 21 (hz_n 0)) 15 (hz_n 0)) 16 (hz_n 0)) 17 (hz_n 0)) 18 (hz_n 0)) hF s1 s2 hl ham rfl (fun b _ _ => rfl) rfl rfl rfl rfl rfl rfl rfl rfl
    obtain ⟨z, n', z1, z2, z3, z4, z5, ⟨e, e1, e2, e3⟩, ⟨k1, k2, k3⟩, m1, m2, m3, m4⟩ := b4
    refine .inr ⟨κ1, κ2, N', r, μ', (by rw [q1]; intro e; cases e), b1, b2, ?_, m1, ?_, ⟨N, t, h1, k1.trans h2, m2.trans h3, fun p hp => ?_⟩, ⟨n', z5⟩, e2.trans e3.symm, ?_⟩
    · rw [mr, q3, zt1, if_neg (by omega)]; exact b3
    · have zz : (hz_n z).toInt = z := zn_ti (by omega)
      rw [b5, z3, z4, zz, z5.2.1, z5.2.2.1]
      by_cases hz : z = 0
      · rw [if_pos (by omega), if_pos hz]
      · rw [if_neg (by omega), if_neg hz]
    · rw [k2, m3]; exact h4 p hp
    · rw [k3]
      exact qAll_fr (ST := μ.2) (fun _ _ _ _ => rfl) (fun l _ => by rw [m4 18 (by omega) (by omega)]) (fun l _ => by rw [m4 19 (by omega) (by omega)]) (fun l k _ _ => by rw [m4 20 (by omega) (by omega)]) (fun l a x _ x1 x2 _ => by rw [m4 a (by omega) (by omega)]) h6
-- a definition, as the reader finds it
def jR0 (N : Nat) (f : Nat → Int32) : zM := (fun n => if n = 3 then hz_n (-1) else hz_n 0, fun a p => if a = 0 then (if p < N then f p else hz_n 0) else if a = 3 then (if p < 26 then hz_n (-1) else hz_n 0) else hz_n 0)
theorem jDef {E : Nat → Option zT} {κ : zK} {μ : zM} {l F : Nat} (hF : 100 ≤ F) (hl : l < 26) (h : jI E κ μ) : ∃ N : Nat, N ≤ 40 ∧ κ.1 0 = hz_n N ∧ (∀ p, p < 40 → 0 ≤ (κ.2.1 1 p).toInt ∧ (κ.2.1 1 p).toInt < 65536) ∧ ∃ a ρ' μ', r_read N (jR0 N (κ.2.1 1)) = some (a, ρ') ∧ m_define μ F (hz_n (65 + l : Nat)) = some (a, μ') ∧ μ'.1 10 = hz_n 0
    ∧ ((a.toInt < 0 ∧ jI E (kS κ 0 (hz_n 0)) μ') ∨ (0 ≤ a.toInt ∧ ∀ (d : Nat) (E' : Nat → Option zT), E' d = some (N, ρ'.2 0, ρ'.2 1, ρ'.2 2, ρ'.1 0) → (∀ l d', l < 26 → κ.2.2 3 l = some d' → E' d' = E d') → jI E' (kQ (kS κ 0 (hz_n 0)) 3 l (some d)) μ')) := by
  obtain ⟨⟨N, t, h1, h2, h3, h4⟩, ⟨n, p1, p2, p3, p4⟩, h5, h6⟩ := h
  have hy : qHy (fun p => if p < N then t p else 0) N F := ⟨fun p => by
    show (if p < N then t p else 0) < 65536
    by_cases e : p < N
    · rw [if_pos e]; have := (h4 p (by omega)).1; omega
    · rw [if_neg e]; omega, h1, hF⟩
  have hr : qRi (fun p => if p < N then t p else 0) (jR0 N (κ.2.1 1)) := by
    refine ⟨rfl, rfl, rfl, rfl, ?_, fun v hv => by show (if v < 26 then hz_n (-1) else hz_n 0) = _; rw [if_pos hv], fun p => rfl⟩
    funext p
    show (if p < N then κ.2.1 1 p else hz_n 0) = hz_n ((if p < N then t p else 0 : Nat) : Int)
    by_cases e : p < N
    · rw [if_pos e, if_pos e]; exact (h4 p (by omega)).2.1
    · rw [if_neg e, if_neg e]; rfl
  refine ⟨N, h1, h2, fun p hp => ?_, ?_⟩
  · obtain ⟨a1, a2, _⟩ := h4 p hp
    rw [a2, zt (t p) (by omega)]; omega
  · obtain ⟨a, ρ', μ', e1, e2, ⟨f1, f2, f3, f4⟩, oc⟩ := qDefine hy hl hr h3 (fun p hp => by show _ = hz_n ((if p < N then t p else 0 : Nat) : Int); rw [if_pos hp]; exact (h4 p (by omega)).2.2)
    have jt : ∀ κ' : zK, κ'.1 0 = hz_n 0 → κ'.2.1 1 = κ.2.1 1 → jT κ' μ' := fun κ' k0 k1 => ⟨0, t, by omega, k0, f3, fun p hp => by rw [k1, f4 16 (by omega)]; exact h4 p hp⟩
    have jp : ∀ κ' : zK, κ'.1 6 = κ.1 6 → κ'.2.1 13 = κ.2.1 13 → ∃ n, bPg κ' μ' n := fun κ' k0 k1 => ⟨n, p1, k0.trans p2, by rw [f1 12 (by decide) (by decide) (by decide) (by decide)]; exact p3, fun j hj => by rw [k1, f4 17 (by omega)]; exact p4 j hj⟩
    have je : μ'.1 20 = μ.1 20 := f1 20 (by decide) (by decide) (by decide) (by decide)
    refine ⟨a, ρ', μ', e1, e2, f2, ?_⟩
    rcases oc with ⟨a1, a2⟩ | ⟨a1, a2, a3, a4⟩
    · exact .inl ⟨a1, jt _ rfl rfl, jp _ rfl rfl, by rw [je]; exact h5, qAll_L a2 h6⟩
    · refine .inr ⟨a1, fun d E' hd hE => ⟨jt _ rfl rfl, jp _ rfl rfl, by rw [je]; exact h5, fun l' hl' => ?_⟩⟩
      rw [kQ3, if_pos rfl]
      by_cases e : l' = l
      · rw [if_pos e, e]
        exact .inr ⟨d, _, rfl, hd, a3, a4⟩
      · rw [if_neg e]
        obtain ⟨g1, g2, g3, g4⟩ := a2 l' hl' e
        rcases h6 l' hl' with ⟨r1, r2⟩ | ⟨d', T', r1, r2, r3, r4⟩
        · exact .inl ⟨r1, by rw [g1]; exact r2⟩
        · exact .inr ⟨d', T', r1, by rw [hE l' d' hl' r1]; exact r2, by rw [g1]; exact r3, qSrc_fr g2 g3 g4 r4⟩
