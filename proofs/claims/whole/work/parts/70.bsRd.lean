-- reading: the class's reader (a recursion) beside the reference's stack of expectations
def qsc (s : Nat → Option Nat) (v : Nat) : Int32 := match s v with
  | some b => hz_n b
  | none => hz_n (-1)
def qTx (t : Nat → Nat) : Nat → Int32 := fun p => hz_n (t p)
def qX (sc : Nat → Option Nat) (v b : Nat) : Nat → Option Nat := fun u => if u = v then some b else sc u
def qRS (t : Nat → Nat) (N i : Nat) (sc : Nat → Option Nat) (ρ : zM) : Prop :=
  ρ.1 1 = hz_n i ∧ ρ.1 2 = hz_n 0 ∧ ρ.2 0 = qTx t ∧ (∀ v, v < 26 → ρ.2 3 v = qsc sc v) ∧ (∀ p, i ≤ p → ρ.2 1 p = hz_n 0) ∧ i ≤ N
def qMS (t : Nat → Nat) (N k w : Nat) (μ : zM) : Prop := μ.1 13 = hz_n (1040 + k : Nat) ∧ μ.1 14 = hz_n w ∧ ∀ p, p < N → μ.2 16 p = hz_n (t p)
def qRF (i : Nat) (ρ ρ' : zM) : Prop := ρ'.1 0 = ρ.1 0 ∧ ∀ p, p < i → ρ'.2 1 p = ρ.2 1 p ∧ ρ'.2 2 p = ρ.2 2 p
def qMF (k w : Nat) (μ μ' : zM) : Prop := (∀ n, n ≠ 13 → n ≠ 14 → μ'.1 n = μ.1 n) ∧ (∀ a, a < 21 ∨ 27 < a → μ'.2 a = μ.2 a)
  ∧ (∀ a x, 21 ≤ a → a ≤ 23 → x < 1040 + k → μ'.2 a x = μ.2 a x) ∧ (∀ x, x < k → μ'.2 24 x = μ.2 24 x) ∧ (∀ a s, 25 ≤ a → a ≤ 27 → s < w → μ'.2 a s = μ.2 a s)
def qHy (t : Nat → Nat) (N F : Nat) : Prop := (∀ p, t p < 65536) ∧ N ≤ 40 ∧ 100 ≤ F
noncomputable def qR (F N : Nat) (μ : zM) (i f : Nat) : Option (Int32 × zM) := m_rd1 F (hz_n N) f μ (hz_n i)
noncomputable def qB (F N : Nat) (x : Int32) (μ : zM) (i d : Nat) : Nat → Option (Int32 × zM)
  | 0 => none
  | f + 1 => (m_begin μ F x (hz_n i) (hz_n d)).bind fun q => if q.1.toInt = 0 then some (hz_n (-1) - hz_n i, q.2) else m_rd1 F (hz_n N) f q.2 (hz_n i + hz_n 1)
-- what both have read: 0 sign 1 next 2 binder (by places) 3 op 4 val 5 more 6 place (by nodes)
def qA (ρ μ : zM) : Nat → Nat → Int32
  | 0, x => ρ.2 0 x
  | 1, x => ρ.2 1 x
  | 2, x => ρ.2 2 x
  | 3, x => μ.2 21 (1040 + x)
  | 4, x => μ.2 22 (1040 + x)
  | 5, x => μ.2 23 (1040 + x)
  | _ + 6, x => μ.2 24 x
def qN (A : Nat → Nat → Int32) (i k c o : Nat) : Prop := A 0 i = hz_n c ∧ A 3 k = hz_n o ∧ A 6 k = hz_n i
def qAtom (A : Nat → Nat → Int32) (i k : Nat) (sc : Nat → Option Nat) : Prop :=
  (∃ v : Nat, v < 26 ∧ qN A i k (97 + v) 1 ∧ A 4 k = hz_n v ∧ A 2 i = qsc sc v) ∨ (∃ v : Nat, v < 10 ∧ qN A i k (48 + v) 2 ∧ A 4 k = hz_n v)
  ∨ (∃ v : Nat, v < 26 ∧ qN A i k (65 + v) 3 ∧ A 4 k = hz_n v) ∨ qN A i k 126 4
-- so many parts, one behind the other: m, the last one's place, where they end
def qPs (W : Nat → Nat → Nat → Nat → Prop) (A : Nat → Nat → Int32) (i k : Nat) : Nat → Nat → Nat → Nat → Prop
  | 0, q, j, k' => q = 0 ∧ j = i ∧ k' = k
  | m + 1, q, j, k' => ∃ q' k1, qPs W A i k m q' q k1 ∧ (m = 0 ∨ A 1 q' = hz_n q) ∧ W q j k1 k'
def qKind (A : Nat → Nat → Int32) (k c o m e : Nat) : Prop :=
  (c = 58 ∧ o = 5 ∧ m = 2 ∧ e = 0 ∧ A 4 k = hz_n 0) ∨ ((c = 42 ∨ c = 43 ∨ c = 45 ∨ c = 60 ∨ c = 61) ∧ o = 7 ∧ m = 2 ∧ e = 0 ∧ A 4 k = hz_n c)
  ∨ (c = 63 ∧ o = 8 ∧ m = 3 ∧ e = 0 ∧ A 4 k = hz_n 0) ∨ (c = 40 ∧ o = 6 ∧ 2 ≤ m ∧ m ≤ 5 ∧ e = 1 ∧ A 4 k = hz_n 0 ∧ A 5 k = hz_n (m - 1 : Nat))
def qW (A : Nat → Nat → Int32) : Nat → (Nat → Option Nat) → Nat → Nat → Nat → Nat → Prop
  | 0, sc, i, j, k, k' => j = i + 1 ∧ k' = k + 1 ∧ qAtom A i k sc
  | g + 1, sc, i, j, k, k' => (j = i + 1 ∧ k' = k + 1 ∧ qAtom A i k sc)
    ∨ (∃ c o m e q j' : Nat, qKind A k c o m e ∧ qN A i k c o ∧ qPs (qW A g sc) A (i + 1) (k + 1) m q j' k' ∧ A 1 q = hz_n 0 ∧ j = j' + e)
    ∨ (∃ v u q j2 k2 : Nat, v < 26 ∧ u < 26 ∧ qN A i k 47 9 ∧ A 4 k = hz_n v ∧ A 5 k = hz_n u ∧ qPs (qW A g sc) A (i + 1) (k + 1) 2 q j2 k2 ∧ A 1 q = hz_n (j2 + 2 : Nat)
        ∧ A 0 j2 = hz_n (97 + v : Nat) ∧ A 0 (j2 + 1) = hz_n (97 + u : Nat) ∧ qW A g (qX (qX sc v j2) u (j2 + 1)) (j2 + 2) j k2 k' ∧ A 1 (j2 + 2) = hz_n 0)
    ∨ (∃ v q : Nat, v < 26 ∧ qN A i k 36 10 ∧ A 4 k = hz_n v ∧ A 0 (i + 1) = hz_n (97 + v : Nat) ∧ qPs (qW A g (qX sc v (i + 1))) A (i + 2) (k + 1) 2 q j k' ∧ A 1 q = hz_n 0)
-- a name that nothing binds; the first one
def qSt (A : Nat → Nat → Int32) (x : Nat) : Prop := A 3 x = hz_n 1 ∧ A 2 (A 6 x).toInt.toNat = hz_n (-1)
def qFst (A : Nat → Nat → Int32) (k k' j : Nat) (s s' : Int32) : Prop := (∀ x, k ≤ x → x < k' → ∃ p, p < j ∧ A 6 x = hz_n (p : Nat)) ∧ (s ≠ hz_n (-1) → s' = s)
  ∧ (s = hz_n (-1) → (s' = hz_n (-1) ∧ ∀ x, k ≤ x → x < k' → ¬ qSt A x) ∨ ∃ x, k ≤ x ∧ x < k' ∧ qSt A x ∧ s' = A 6 x ∧ ∀ y, k ≤ y → y < x → ¬ qSt A y)
-- from the start of something to where both stand now
def qPre (F N i k w : Nat) (ρ μ : zM) (C : Nat → Option (Int32 × zM)) (j k' : Nat) (ρ' μ' : zM) : Prop :=
  i ≤ j ∧ k ≤ k' ∧ k' ≤ j ∧ qRF i ρ ρ' ∧ qMF k w μ μ' ∧ (∀ f, C (f + (j - i)) = qR F N μ' j f) ∧ qFst (qA ρ' μ') k k' j (ρ.1 3) (ρ'.1 3)
def qFlt (t : Nat → Nat) (N i k w : Nat) (μ ρ' : zM) (C : Nat → Option (Int32 × zM)) : Prop :=
  ρ'.1 2 = hz_n 1 ∧ ρ'.2 0 = qTx t ∧ ∃ j, i ≤ j ∧ j ≤ N ∧ ρ'.1 1 = hz_n j ∧ ∃ μ', qMF k w μ μ' ∧ ∀ f, C (f + (N + 1 - i)) = some (hz_n (-1 - (j : Int)), μ')
def qGo (t : Nat → Nat) (F N : Nat) (X : Option (Int32 × zM)) (i k w : Nat) (sc : Nat → Option Nat) (ρ μ : zM) (C : Nat → Option (Int32 × zM)) (Q : Int32 → Nat → Nat → zM → zM → Prop) : Prop :=
  ∃ x ρ', X = some (x, ρ') ∧ (qFlt t N i k w μ ρ' C ∨ ∃ j k' μ', qRS t N j sc ρ' ∧ qMS t N k' w μ' ∧ qPre F N i k w ρ μ C j k' ρ' μ' ∧ Q x j k' ρ' μ')
theorem qRF_r (i : Nat) (ρ : zM) : qRF i ρ ρ := ⟨rfl, fun _ _ => ⟨rfl, rfl⟩⟩
theorem qRF_t {i i' : Nat} {ρ ρ1 ρ2 : zM} (h : qRF i ρ ρ1) (h' : qRF i' ρ1 ρ2) (hi : i ≤ i') : qRF i ρ ρ2 :=
  ⟨h'.1.trans h.1, fun p hp => ⟨((h'.2 p (by omega)).1).trans (h.2 p hp).1, ((h'.2 p (by omega)).2).trans (h.2 p hp).2⟩⟩
theorem qMF_r (k w : Nat) (μ : zM) : qMF k w μ μ := ⟨fun _ _ _ => rfl, fun _ _ => rfl, fun _ _ _ _ _ => rfl, fun _ _ => rfl, fun _ _ _ _ _ => rfl⟩
theorem qMF_t {k w k' w' : Nat} {μ μ1 μ2 : zM} (h : qMF k w μ μ1) (h' : qMF k' w' μ1 μ2) (hk : k ≤ k') (hw : w ≤ w') : qMF k w μ μ2 :=
  ⟨fun n h1 h2 => (h'.1 n h1 h2).trans (h.1 n h1 h2), fun a ha => (h'.2.1 a ha).trans (h.2.1 a ha), fun a x h1 h2 h3 => (h'.2.2.1 a x h1 h2 (by omega)).trans (h.2.2.1 a x h1 h2 h3),
   fun x hx => (h'.2.2.2.1 x (by omega)).trans (h.2.2.2.1 x hx), fun a s h1 h2 h3 => (h'.2.2.2.2 a s h1 h2 (by omega)).trans (h.2.2.2.2 a s h1 h2 h3)⟩
-- parts hold their ground
def qAg (A A' : Nat → Nat → Int32) (i j k k' : Nat) : Prop := (∀ p, i ≤ p → p < j → A' 0 p = A 0 p ∧ A' 2 p = A 2 p ∧ (i < p → A' 1 p = A 1 p))
  ∧ ∀ x, k ≤ x → x < k' → A' 3 x = A 3 x ∧ A' 4 x = A 4 x ∧ A' 5 x = A 5 x ∧ A' 6 x = A 6 x
theorem qAg_s {A A' : Nat → Nat → Int32} {i j k k' i1 j1 k1 k1' : Nat} (h : qAg A A' i j k k') (hi : i ≤ i1) (hj : j1 ≤ j) (hk : k ≤ k1) (hk' : k1' ≤ k') : qAg A A' i1 j1 k1 k1' :=
  ⟨fun p h1 h2 => ⟨(h.1 p (by omega) (by omega)).1, (h.1 p (by omega) (by omega)).2.1, fun h3 => (h.1 p (by omega) (by omega)).2.2 (by omega)⟩, fun x h1 h2 => h.2 x (by omega) (by omega)⟩
theorem qPs_lt {W : Nat → Nat → Nat → Nat → Prop} {A : Nat → Nat → Int32} {i k : Nat} (hW : ∀ a b c d, W a b c d → a < b ∧ c < d) : ∀ {m q j k' : Nat}, qPs W A i k m q j k' → i ≤ j ∧ k ≤ k' ∧ (0 < m → i ≤ q ∧ q < j ∧ k < k')
  | 0, q, j, k', h => by obtain ⟨h1, h2, h3⟩ := h; omega
  | m + 1, q, j, k', h => by
    obtain ⟨q', k1, h1, _, h3⟩ := h
    have := qPs_lt hW h1
    have := hW _ _ _ _ h3
    omega
theorem qW_lt {A : Nat → Nat → Int32} : ∀ {g : Nat} {sc : Nat → Option Nat} {i j k k' : Nat}, qW A g sc i j k k' → i < j ∧ k < k'
  | 0, sc, i, j, k, k', h => by obtain ⟨h1, h2, _⟩ := h; omega
  | g + 1, sc, i, j, k, k', h => by
    have ih : ∀ (sc : Nat → Option Nat) (a b c d : Nat), qW A g sc a b c d → a < b ∧ c < d := fun sc a b c d h => qW_lt h
    rcases h with ⟨h1, h2, _⟩ | ⟨c, o, m, e, q, j', h1, h2, h3, h4, h5⟩ | ⟨v, u, q, j2, k2, _, _, _, _, _, h3, _, _, _, h4, _⟩ | ⟨v, q, _, _, _, _, h3, _⟩
    · omega
    · have := qPs_lt (ih sc) h3; omega
    · have := qPs_lt (ih sc) h3; have := qW_lt h4; omega
    · have := qPs_lt (ih _) h3; omega
theorem qPs_ag {W W' : Nat → Nat → Nat → Nat → Prop} {A A' : Nat → Nat → Int32} {i k : Nat} (hW : ∀ a b c d, W a b c d → a < b ∧ c < d) : ∀ {m q j k' : Nat}, (∀ a b c d, i ≤ a → b ≤ j → k ≤ c → d ≤ k' → (b ≤ q ∨ a = q) → W a b c d → W' a b c d)
    → (∀ p, i ≤ p → p < q → A' 1 p = A 1 p) → qPs W A i k m q j k' → qPs W' A' i k m q j k'
  | 0, q, j, k', _, _, h => h
  | m + 1, q, j, k', hc, ha, h => by
    obtain ⟨q', k1, h1, h2, h3⟩ := h
    have l1 := qPs_lt hW h1
    have l3 := hW _ _ _ _ h3
    refine ⟨q', k1, qPs_ag hW (fun a b c d h1 h2 h4 h5 _ => hc a b c d h1 (by omega) h4 (by omega) (by omega)) (fun p h4 h5 => ?_) h1, ?_, hc _ _ _ _ (by omega) (by omega) (by omega) (by omega) (.inr rfl) h3⟩
    · match m, l1 with
      | 0, l1 => exact ha p h4 (by have := h1.1; omega)
      | m + 1, l1 => exact ha p h4 (by omega)
    · rcases h2 with h2 | h2
      · exact .inl h2
      · match m, l1 with
        | 0, l1 => exact .inl rfl
        | m + 1, l1 => exact .inr (by rw [ha q' (by omega) (by omega)]; exact h2)
theorem qAtom_ag {A A' : Nat → Nat → Int32} {i k : Nat} {sc : Nat → Option Nat} (h : qAg A A' i (i + 1) k (k + 1)) (H : qAtom A i k sc) : qAtom A' i k sc := by
  obtain ⟨a0, a2, _⟩ := h.1 i (by omega) (by omega)
  obtain ⟨a3, a4, a5, a6⟩ := h.2 k (by omega) (by omega)
  unfold qAtom qN at H ⊢
  rw [a0, a2, a3, a4, a6]; exact H
theorem qW_ag {A A' : Nat → Nat → Int32} : ∀ {g : Nat} {sc : Nat → Option Nat} {i j k k' : Nat}, qAg A A' i j k k' → qW A g sc i j k k' → qW A' g sc i j k k'
  | 0, sc, i, j, k, k', ha, h => by
    obtain ⟨h1, h2, h3⟩ := h
    subst h1; subst h2
    exact ⟨rfl, rfl, qAtom_ag ha h3⟩
  | g + 1, sc, i, j, k, k', ha, h => by
    have il : ∀ (sc : Nat → Option Nat) (a b c d : Nat), qW A g sc a b c d → a < b ∧ c < d := fun sc a b c d h => qW_lt h
    have ig : ∀ (sc : Nat → Option Nat) (a b c d : Nat), i ≤ a → b ≤ j → k ≤ c → d ≤ k' → qW A g sc a b c d → qW A' g sc a b c d := fun sc a b c d h1 h2 h3 h4 h => qW_ag (qAg_s ha h1 h2 h3 h4) h
    have hl := qW_lt h
    obtain ⟨a0, a2, _⟩ := ha.1 i (by omega) (by omega)
    obtain ⟨a3, a4, a5, a6⟩ := ha.2 k (by omega) (by omega)
    have hN : ∀ c o, qN A i k c o → qN A' i k c o := fun c o h => by unfold qN at h ⊢; rw [a0, a3, a6]; exact h
    rcases h with ⟨h1, h2, h3⟩ | ⟨c, o, m, e, q, j', h1, h2, h3, h4, h5⟩ | ⟨v, u, q, j2, k2, hv, hu, hn, h4, h5, h3, h6, h7, h8, h9, hz⟩ | ⟨v, q, hv, hn, h4, h5, h3, hz⟩
    · subst h1; subst h2
      exact .inl ⟨rfl, rfl, qAtom_ag ha h3⟩
    · have l3 := qPs_lt (il sc) h3
      refine .inr (.inl ⟨c, o, m, e, q, j', ?_, hN _ _ h2, qPs_ag (il sc) (fun a b c d x1 x2 x3 x4 _ => ig sc a b c d (by omega) (by omega) (by omega) (by omega)) (fun p p1 p2 => ?_) h3, ?_, h5⟩)
      · unfold qKind at h1 ⊢; rw [a4, a5]; exact h1
      · have : m ≠ 0 := by rintro rfl; have := h3.1; omega
        exact (ha.1 p (by omega) (by omega)).2.2 (by omega)
      · have : 0 < m := by unfold qKind at h1; omega
        rw [(ha.1 q (by omega) (by omega)).2.2 (by omega)]; exact h4
    · have l3 := qPs_lt (il sc) h3
      have l9 := il _ _ _ _ _ h9
      refine .inr (.inr (.inl ⟨v, u, q, j2, k2, hv, hu, hN _ _ hn, by rw [a4]; exact h4, by rw [a5]; exact h5, qPs_ag (il sc) (fun a b c d x1 x2 x3 x4 _ => ig sc a b c d (by omega) (by omega) (by omega) (by omega)) (fun p p1 p2 => ?_) h3, ?_, ?_, ?_, ig _ _ _ _ _ (by omega) (by omega) (by omega) (by omega) h9, by rw [(ha.1 (j2 + 2) (by omega) (by omega)).2.2 (by omega)]; exact hz⟩))
      · exact (ha.1 p (by omega) (by omega)).2.2 (by omega)
      · rw [(ha.1 q (by omega) (by omega)).2.2 (by omega)]; exact h6
      · rw [(ha.1 j2 (by omega) (by omega)).1]; exact h7
      · rw [(ha.1 (j2 + 1) (by omega) (by omega)).1]; exact h8
    · have l3 := qPs_lt (il _) h3
      refine .inr (.inr (.inr ⟨v, q, hv, hN _ _ hn, by rw [a4]; exact h4, ?_, qPs_ag (il _) (fun a b c d x1 x2 x3 x4 _ => ig _ a b c d (by omega) (by omega) (by omega) (by omega)) (fun p p1 p2 => ?_) h3, by rw [(ha.1 q (by omega) (by omega)).2.2 (by omega)]; exact hz⟩))
      · rw [(ha.1 (i + 1) (by omega) (by omega)).1]; exact h5
      · exact (ha.1 p (by omega) (by omega)).2.2 (by omega)

def qBad (t : Nat → Nat) (ρ : zM) : Prop := ρ.1 2 = hz_n 1 ∧ ρ.2 0 = qTx t
theorem zt1 : (hz_n 1).toInt = 1 := zn_ti (by omega)
theorem qsign {t : Nat → Nat} {N F i : Nat} {sc : Nat → Option Nat} {ρ : zM} (H : qHy t N F) (h : qRS t N i sc ρ) : r_sign N ρ = some (hz_n (if i < N then t i else 0 : Nat)) := by
  obtain ⟨h1, h2, h3, h4, h5, h6⟩ := h
  unfold r_sign
  rw [zgd_t (fun j => by rw [h3]; show narrow .char (.int (hz_n (t j))) = .int (hz_n (t j)); exact hz_char (by have := H.1 j; rw [zt _ (by omega)]; omega) (by have := H.1 j; rw [zt _ (by omega)]; omega)), h1, zt N (by have := H.2.1; omega), zt i (by have := H.2.1; omega)]
  by_cases hi : i < N
  · rw [if_neg (by omega), zgd_t (by omega), if_pos hi, h3]; rfl
  · rw [if_pos (by omega), if_neg hi]; rfl
theorem qrp_bad {t : Nat → Nat} {N g : Nat} {ρ : zM} {x y : Int32} (h : qBad t ρ) : r_readPart N (g + 1) ρ x y = some (x, ρ) := by
  show r_rp1 N (r_readPart N g) ρ x y = _
  unfold r_rp1; rw [h.1, zt1, if_neg (by omega)]
theorem qpl_bad {t : Nat → Nat} {N g c : Nat} {ρ : zM} {d : Int32} (h : qBad t ρ) (hc : c ≤ 10) : ∀ (f k : Nat) (a : Int32), c < f + k → k ≤ c → r_pl (r_readPart N (g + 1)) (hz_n c) d f ρ a (hz_n k) = some (a, ρ)
  | 0, k, a, _, h0 => by omega
  | f + 1, k, a, hf, _ => by
    rw [r_pl, zt c (by omega), zt k (by omega)]
    by_cases hck : c ≤ k
    · rw [if_pos (by omega)]
    · rw [if_neg (by omega), qrp_bad h]
      show r_pl _ _ _ f ρ a (hz_n k + hz_n 1) = _
      rw [zn1]; exact qpl_bad h hc f (k + 1) a (by omega) (by omega)
theorem qrv_bad {t : Nat → Nat} {N : Nat} {ρ : zM} (h : qBad t ρ) : r_readVariable N ρ = some (ρ.1 1, mS ρ 2 (hz_n 1)) := by
  unfold r_readVariable; rw [h.1, zt1, if_neg (by omega)]
theorem qrs_bad {t : Nat → Nat} {N : Nat} {ρ : zM} {x : Int32} (h : qBad t ρ) : r_readSign N ρ x = some (mS ρ 2 (hz_n 1)) := by
  unfold r_readSign; rw [h.1, zt1, if_neg (by omega)]
theorem qbad_S {t : Nat → Nat} {ρ : zM} (h : ρ.2 0 = qTx t) : qBad t (mS ρ 2 (hz_n 1)) := ⟨rfl, h⟩
theorem qal_bad {t : Nat → Nat} {N f : Nat} {P : zM → Int32 → Int32 → Option (Int32 × zM)} {ρ : zM} {d a k : Int32} (h : qBad t ρ) : r_al N P d (f + 1) ρ a k = some (mS ρ 2 (hz_n 1)) := by
  rw [r_al, h.1, zt1, qrs_bad h]
  by_cases hk : 4 ≤ k.toInt
  · rw [if_pos hk]
  · rw [if_neg hk, if_neg (by omega)]
-- the reference: one sign
theorem qR_take {t : Nat → Nat} {N F i k w f : Nat} {μ : zM} (H : qHy t N F) (hi : i < N) (h : qMS t N k (w + 1) μ) (hw : w < 120) : qR F N μ i (f + 1) = (m_take2 (mS μ 14 (hz_n w)) F (hz_n (t i)) (hz_n i) (μ.2 25 w) (μ.2 26 w) (μ.2 27 w)).bind fun q => if q.1.toInt = 0 then some (hz_n (-1 - (i : Int)), q.2) else qR F N q.2 (i + 1) f := by
  obtain ⟨h1, h2, h3⟩ := h
  have hN := H.2.1
  have e : hz_n ((w + 1 : Nat) : Int) - hz_n 1 = hz_n w := by rw [zn_sub]; congr 1; omega
  unfold qR
  rw [m_rd1, zt N (by omega), zt i (by omega), if_neg (by omega), zgd_t (by omega), Int.toNat_natCast, h3 i hi]
  unfold m_take
  rw [h2, zt (w + 1) (by omega), if_neg (by omega), e, zt w (by omega), zgd_t (by omega), Int.toNat_natCast, zn_sub, zn1]
theorem qR_end {t : Nat → Nat} {N F k w f : Nat} {μ : zM} (H : qHy t N F) (h : qMS t N k (w + 1) μ) (hw : w < 120) : qR F N μ N (f + 1) = some (hz_n (-1 - (N : Int)), μ) := by
  obtain ⟨h1, h2, h3⟩ := h
  have hN := H.2.1
  unfold qR
  rw [m_rd1, zt N (by omega), if_pos (by omega), h2, zt (w + 1) (by omega), if_neg (by omega), zn_sub]
theorem qB_1 {F N i d f : Nat} {x : Int32} {μ : zM} : qB F N x μ i d (f + 1) = (m_begin μ F x (hz_n i) (hz_n d)).bind fun q => if q.1.toInt = 0 then some (hz_n (-1 - (i : Int)), q.2) else qR F N q.2 (i + 1) f := by
  unfold qR; rw [qB, zn_sub, zn1]
-- the stack
def qPu (w w' : Nat) (μ μ' : zM) : Prop := (∀ n, n ≠ 14 → μ'.1 n = μ.1 n) ∧ μ'.1 14 = hz_n w' ∧ (∀ a, a < 25 ∨ 27 < a → μ'.2 a = μ.2 a) ∧ ∀ a s, s < w → μ'.2 a s = μ.2 a s
theorem qPu_t {w w1 w2 : Nat} {μ μ1 μ2 : zM} (h : qPu w w1 μ μ1) (h' : qPu w1 w2 μ1 μ2) (hw : w ≤ w1) : qPu w w2 μ μ2 :=
  ⟨fun n hn => (h'.1 n hn).trans (h.1 n hn), h'.2.1, fun a ha => (h'.2.2.1 a ha).trans (h.2.2.1 a ha), fun a s hs => (h'.2.2.2 a s (by omega)).trans (h.2.2.2 a s hs)⟩
theorem qpush {w : Nat} {μ : zM} {x y d : Int32} (hw : w < 120) (h : μ.1 14 = hz_n w) : qPu w (w + 1) μ (m_push μ x y d) ∧ (m_push μ x y d).2 25 w = x ∧ (m_push μ x y d).2 26 w = y ∧ (m_push μ x y d).2 27 w = d := by
  unfold m_push
  rw [h, zt w (by omega), Int.toNat_natCast, zn1]
  refine ⟨⟨fun n hn => by rw [mS1, if_neg hn]; rfl, rfl, fun a ha => ?_, fun a s hs => ?_⟩, ?_, ?_, ?_⟩
  · rw [mS2, mA2n _ _ _ _ _ (by omega), mA2n _ _ _ _ _ (by omega), mA2n _ _ _ _ _ (by omega)]
  · have hs' : s ≠ w := by omega
    rw [mS2]; simp only [mA2, if_neg hs']; repeat' split
    all_goals simp_all
  · rw [mS2]; simp [mA2]
  · rw [mS2]; simp [mA2]
  · rw [mS2]; simp [mA2]
theorem qpe {d : Int32} {r : Nat} (hr : r ≤ 5) : ∀ (m f w : Nat) (μ : zM), m ≤ r → r < f + m → 0 < f → w + (r - m) ≤ 120 → μ.1 14 = hz_n w → ∃ μ', m_pe (hz_n r) d f μ (hz_n m) = some μ' ∧ qPu w (w + (r - m)) μ μ' ∧ ∀ s, w ≤ s → s < w + (r - m) → μ'.2 25 s = hz_n 2 ∧ μ'.2 27 s = d
  | m, 0, w, μ, _, _, h0, _, _ => by omega
  | m, f + 1, w, μ, hm, hf, _, hw, h14 => by
    by_cases e : m = r
    · subst e
      refine ⟨μ, ?_, ⟨fun _ _ => rfl, by rw [h14]; congr 1; omega, fun _ _ => rfl, fun _ _ _ => rfl⟩, fun s h1 h2 => by omega⟩
      rw [m_pe, if_pos (by omega)]
    · obtain ⟨p1, p2, p3, p4⟩ := qpush (x := hz_n 2) (y := hz_n 0) (d := d) (μ := μ) (w := w) (by omega) h14
      obtain ⟨μ', a1, a2, a3⟩ := qpe hr (m + 1) f (w + 1) (m_push μ (hz_n 2) (hz_n 0) d) (by omega) (by omega) (by omega) (by omega) p1.2.1
      have ew : w + 1 + (r - (m + 1)) = w + (r - m) := by omega
      rw [ew] at a2 a3
      refine ⟨μ', ?_, qPu_t p1 a2 (by omega), fun s h1 h2 => ?_⟩
      · rw [m_pe, zt r (by omega), zt m (by omega), if_neg (by omega), h14, zt w (by omega), zgd_t (by omega), zn1]; exact a1
      · by_cases es : s = w
        · subst es; rw [a2.2.2.2 25 s (by omega), a2.2.2.2 27 s (by omega)]; exact ⟨p2, p4⟩
        · exact a3 s (by omega) h2
theorem qpushE {t : Nat → Nat} {N F : Nat} {d : Int32} {r w : Nat} {μ : zM} (H : qHy t N F) (hr : r ≤ 5) (hw : w + r ≤ 120) (h : μ.1 14 = hz_n w) : ∃ μ', m_pushE μ F (hz_n r) d = some μ' ∧ qPu w (w + r) μ μ' ∧ ∀ s, w ≤ s → s < w + r → μ'.2 25 s = hz_n 2 ∧ μ'.2 27 s = d := by
  have := H.2.2
  exact qpe hr 0 F w μ (by omega) (by omega) (by omega) (by omega) h
theorem qadd {k w : Nat} {μ : zM} {o v p : Int32} (hk : k < 40) (h : μ.1 13 = hz_n (1040 + k : Nat)) :
    (∀ n, n ≠ 13 → (m_add μ o v p).1 n = μ.1 n) ∧ (m_add μ o v p).1 13 = hz_n (1040 + (k + 1) : Nat) ∧ qMF k w μ (m_add μ o v p)
    ∧ (m_add μ o v p).2 21 (1040 + k) = o ∧ (m_add μ o v p).2 22 (1040 + k) = v ∧ (m_add μ o v p).2 23 (1040 + k) = hz_n 0 ∧ (m_add μ o v p).2 24 k = p ∧ (∀ a, a < 21 ∨ 24 < a → (m_add μ o v p).2 a = μ.2 a) := by
  have e : hz_n ((1040 + k : Nat) : Int) - hz_n 1040 = hz_n k := by rw [zn_sub]; congr 1; omega
  unfold m_add
  rw [h, e, zt (1040 + k) (by omega), zt k (by omega), Int.toNat_natCast, Int.toNat_natCast, zn1]
  refine ⟨fun n hn => by rw [mS1, if_neg hn]; rfl, rfl, ⟨fun n h1 h2 => by rw [mS1, if_neg h1]; rfl, fun a ha => ?_, fun a x h1 h2 h3 => ?_, fun x hx => ?_, fun a s h1 h2 h3 => ?_⟩, ?_, ?_, ?_, ?_, fun a ha => ?_⟩
  · rw [mS2]; rw [mA2n _ _ _ _ _ (by omega), mA2n _ _ _ _ _ (by omega), mA2n _ _ _ _ _ (by omega), mA2n _ _ _ _ _ (by omega)]
  · have hx : x ≠ 1040 + k := by omega
    rw [mS2, mA2n _ _ _ _ _ (by omega)]; simp only [mA2, if_neg hx]; repeat' split
    all_goals simp_all
  · rw [mS2, mA2, if_pos rfl, if_neg (by omega)]; rw [mA2n _ _ _ _ _ (by omega), mA2n _ _ _ _ _ (by omega), mA2n _ _ _ _ _ (by omega)]
  · rw [mS2, mA2n _ _ _ _ _ (by omega), mA2n _ _ _ _ _ (by omega), mA2n _ _ _ _ _ (by omega), mA2n _ _ _ _ _ (by omega)]
  · rw [mS2]; simp [mA2]
  · rw [mS2]; simp [mA2]
  · rw [mS2]; simp [mA2]
  · rw [mS2]; simp [mA2]
  · rw [mS2]; rw [mA2n _ _ _ _ _ (by omega), mA2n _ _ _ _ _ (by omega), mA2n _ _ _ _ _ (by omega), mA2n _ _ _ _ _ (by omega)]
theorem qPu_F {k w w' : Nat} {μ μ' : zM} (h : qPu w w' μ μ') : qMF k w μ μ' :=
  ⟨fun n _ h2 => h.1 n h2, fun a ha => h.2.2.1 a (by omega), fun a x h1 h2 h3 => by rw [h.2.2.1 a (by omega)], fun x _ => by rw [h.2.2.1 24 (by omega)], fun a s h1 h2 h3 => h.2.2.2 a s h3⟩

theorem zti0 : (hz_n 0).toInt = 0 := zn_ti (by omega)
theorem qMF_w {k w k' : Nat} {μ μ' : zM} (h : qMF k w μ μ') (hk : k' ≤ k) : qMF k' 0 μ μ' :=
  ⟨h.1, h.2.1, fun a x x1 x2 x3 => h.2.2.1 a x x1 x2 (by omega), fun x x1 => h.2.2.2.1 x (by omega), fun a s _ _ h3 => absurd h3 (by omega)⟩
theorem qFst_r {A : Nat → Nat → Int32} {k j : Nat} {s : Int32} : qFst A k k j s s := ⟨fun x h1 h2 => by omega, fun _ => rfl, fun h => .inl ⟨h, fun x h1 h2 => by omega⟩⟩
theorem qFst_t {A A' : Nat → Nat → Int32} {k k1 k2 j1 j2 : Nat} {s s1 s2 : Int32} (h : qFst A k k1 j1 s s1) (h' : qFst A' k1 k2 j2 s1 s2) (hk : k ≤ k1) (hk2 : k1 ≤ k2) (hj : j1 ≤ j2) (hj2 : j2 ≤ 40)
    (hx : ∀ x, k ≤ x → x < k1 → A' 3 x = A 3 x ∧ A' 6 x = A 6 x) (hp : ∀ p, p < j1 → A' 2 p = A 2 p) : qFst A' k k2 j2 s s2 := by
  obtain ⟨a1, a2, a3⟩ := h
  obtain ⟨b1, b2, b3⟩ := h'
  have st : ∀ x, k ≤ x → x < k1 → (qSt A' x ↔ qSt A x) := by
    intro x h1 h2
    obtain ⟨p, p1, p2⟩ := a1 x h1 h2
    obtain ⟨e1, e2⟩ := hx x h1 h2
    unfold qSt
    rw [e1, e2, p2, zt p (by omega), Int.toNat_natCast, hp p p1]
  refine ⟨fun x h1 h2 => ?_, fun hs => ?_, fun hs => ?_⟩
  · by_cases hx1 : x < k1
    · obtain ⟨p, p1, p2⟩ := a1 x h1 hx1
      exact ⟨p, by omega, by rw [(hx x h1 hx1).2]; exact p2⟩
    · exact b1 x (by omega) h2
  · have := a2 hs; subst this; exact b2 hs
  · rcases a3 hs with ⟨e1, e2⟩ | ⟨x, x1, x2, x3, x4, x5⟩
    · rcases b3 e1 with ⟨f1, f2⟩ | ⟨x, x1, x2, x3, x4, x5⟩
      · refine .inl ⟨f1, fun x h1 h2 => ?_⟩
        by_cases hx1 : x < k1
        · rw [st x h1 hx1]; exact e2 x h1 hx1
        · exact f2 x (by omega) h2
      · refine .inr ⟨x, by omega, x2, x3, x4, fun y h1 h2 => ?_⟩
        by_cases hy : y < k1
        · rw [st y h1 hy]; exact e2 y h1 hy
        · exact x5 y (by omega) h2
    · obtain ⟨p, p1, p2⟩ := a1 x x1 x2
      have hne : s1 ≠ hz_n (-1) := by
        rw [x4, p2]; intro e
        have := zn_inj (by omega) (by omega) e
        omega
      refine .inr ⟨x, x1, by omega, (st x x1 x2).2 x3, by rw [b2 hne, x4, (hx x x1 x2).2], fun y h1 h2 => ?_⟩
      rw [st y h1 (by omega)]; exact x5 y h1 h2
-- the reader with the next part's place written behind the one before
def qNx (ρ : zM) (q i : Nat) : zM := if q = 0 then ρ else mA ρ 1 q (hz_n i)
theorem qNx1 (ρ : zM) (q i : Nat) : (qNx ρ q i).1 = ρ.1 := by unfold qNx; split <;> rfl
theorem qNx2 (ρ : zM) (q i a : Nat) (h : a ≠ 1) : (qNx ρ q i).2 a = ρ.2 a := by
  unfold qNx; split
  · rfl
  · rw [mA2n _ _ _ _ _ h]
theorem qNx3 (ρ : zM) (q i p : Nat) (h : p ≠ q) : (qNx ρ q i).2 1 p = ρ.2 1 p := by
  unfold qNx; split
  · rfl
  · rw [mA2, if_pos rfl, if_neg h]
theorem qNx4 (ρ : zM) (q i : Nat) (h : q ≠ 0) : (qNx ρ q i).2 1 q = hz_n i := by
  unfold qNx; rw [if_neg h, mA2, if_pos rfl, if_pos rfl]
theorem qNx_RS {t : Nat → Nat} {N i q : Nat} {sc : Nat → Option Nat} {ρ : zM} (h : qRS t N i sc ρ) (hq : q = 0 ∨ q < i) : qRS t N i sc (qNx ρ q i) := by
  obtain ⟨h1, h2, h3, h4, h5, h6⟩ := h
  refine ⟨by rw [qNx1]; exact h1, by rw [qNx1]; exact h2, by rw [qNx2 _ _ _ _ (by decide)]; exact h3, fun v hv => by rw [qNx2 _ _ _ _ (by decide)]; exact h4 v hv, fun p hp => ?_, h6⟩
  by_cases h0 : q = 0
  · unfold qNx; rw [if_pos h0]; exact h5 p hp
  · rw [qNx3 _ _ _ _ (by omega)]; exact h5 p hp
-- going on
theorem qPre_r {F N i k w : Nat} {ρ μ : zM} (hk : k ≤ i) : qPre F N i k w ρ μ (qR F N μ i) i k ρ μ := by
  refine ⟨Nat.le_refl _, Nat.le_refl _, hk, qRF_r _ _, qMF_r _ _ _, fun f => ?_, qFst_r⟩
  rw [Nat.sub_self]; rfl
theorem qPre_t {F N i k w w1 j1 k1 j2 k2 : Nat} {ρ μ ρ1 ρs μ1 ρ2 μ2 : zM} {C : Nat → Option (Int32 × zM)} (h : qPre F N i k w ρ μ C j1 k1 ρ1 μ1) (h' : qPre F N j1 k1 w1 ρs μ1 (qR F N μ1 j1) j2 k2 ρ2 μ2)
    (hw : w ≤ w1) (hs : ρs.1 = ρ1.1 ∧ (∀ p, p < i → ρs.2 1 p = ρ1.2 1 p) ∧ ρs.2 2 = ρ1.2 2) (hj : j2 ≤ 40) : qPre F N i k w ρ μ C j2 k2 ρ2 μ2 := by
  obtain ⟨a1, a2, a3, a4, a5, a6, a7⟩ := h
  obtain ⟨b1, b2, b3, b4, b5, b6, b7⟩ := h'
  obtain ⟨s1, s2, s3⟩ := hs
  refine ⟨by omega, by omega, b3, ⟨?_, fun p hp => ⟨?_, ?_⟩⟩, qMF_t a5 b5 a2 hw, fun f => ?_, ?_⟩
  · rw [b4.1, s1]; exact a4.1
  · rw [(b4.2 p (by omega)).1, s2 p hp]; exact (a4.2 p hp).1
  · rw [(b4.2 p (by omega)).2, s3]; exact (a4.2 p hp).2
  · have : f + (j2 - i) = (f + (j2 - j1)) + (j1 - i) := by omega
    rw [this, a6, b6]
  · rw [s1] at b7
    refine qFst_t a7 b7 a2 b2 b1 hj (fun x h1 h2 => ?_) (fun p hp => ?_)
    · exact ⟨b5.2.2.1 21 _ (by omega) (by omega) (by omega), b5.2.2.2.1 x h2⟩
    · show ρ2.2 2 p = ρ1.2 2 p
      rw [(b4.2 p hp).2, s3]
theorem qFlt_t {t : Nat → Nat} {F N i k w w1 j1 k1 : Nat} {ρ μ ρ1 μ1 ρ' : zM} {C : Nat → Option (Int32 × zM)} (h : qPre F N i k w ρ μ C j1 k1 ρ1 μ1) (h' : qFlt t N j1 k1 w1 μ1 ρ' (qR F N μ1 j1)) (hw : w ≤ w1) (hj : j1 ≤ N) : qFlt t N i k w μ ρ' C := by
  obtain ⟨a1, a2, a3, a4, a5, a6, a7⟩ := h
  obtain ⟨b1, b2, j, j3, j4, j5, μ', m1, m2⟩ := h'
  refine ⟨b1, b2, j, by omega, j4, j5, μ', qMF_t a5 m1 a2 hw, fun f => ?_⟩
  have : f + (N + 1 - i) = (f + (N + 1 - j1)) + (j1 - i) := by omega
  rw [this, a6, m2]
theorem qFlt_s {t : Nat → Nat} {N i k w : Nat} {μ ρ' ρ'' : zM} {C : Nat → Option (Int32 × zM)} (h : qFlt t N i k w μ ρ' C) (h1 : ρ''.1 2 = hz_n 1) (h2 : ρ''.2 0 = qTx t) (h3 : ρ''.1 1 = ρ'.1 1) : qFlt t N i k w μ ρ'' C := by
  obtain ⟨b1, b2, j, j3, j4, j5, r⟩ := h
  exact ⟨h1, h2, j, j3, j4, h3.trans j5, r⟩
theorem qAg_F {ρ ρ' μ μ' : zM} {i j k k' w : Nat} (h0 : ρ'.2 0 = ρ.2 0) (h2 : ∀ p, i ≤ p → p < j → ρ'.2 2 p = ρ.2 2 p) (h1 : ∀ p, i < p → p < j → ρ'.2 1 p = ρ.2 1 p) (hm : qMF k' w μ μ') : qAg (qA ρ μ) (qA ρ' μ') i j k k' := by
  refine ⟨fun p p1 p2 => ⟨by show ρ'.2 0 p = ρ.2 0 p; rw [h0], h2 p p1 p2, fun p3 => h1 p p3 p2⟩, fun x x1 x2 => ⟨?_, ?_, ?_, ?_⟩⟩
  · exact hm.2.2.1 21 _ (by omega) (by omega) (by omega)
  · exact hm.2.2.1 22 _ (by omega) (by omega) (by omega)
  · exact hm.2.2.1 23 _ (by omega) (by omega) (by omega)
  · exact hm.2.2.2.1 x x2
-- one expression: where a sign is due, and where the stack says so
def qScB (sc : Nat → Option Nat) : Prop := ∀ v b, sc v = some b → b < 40
def qQ (g : Nat) (sc : Nat → Option Nat) (i k : Nat) (x : Int32) (j k' : Nat) (ρ' μ' : zM) : Prop := x = hz_n i ∧ i < j ∧ qW (qA ρ' μ') g sc i j k k' ∧ ρ'.2 1 i = hz_n 0
def qClaim (t : Nat → Nat) (F N g : Nat) : Prop := ∀ (i k w : Nat) (sc : Nat → Option Nat) (ρ μ : zM), i < N → k ≤ i → w ≤ 4 * (14 - g) → qScB sc → qRS t N i sc ρ → qMS t N k w μ →
  qGo t F N (r_rq N (r_readPart N g) ρ (hz_n i) (hz_n (15 - g : Nat))) i k w sc ρ μ (qB F N (hz_n (t i)) μ i (15 - g)) (qQ g sc i k)
def qPart (t : Nat → Nat) (F N g : Nat) : Prop := ∀ (i k w q : Nat) (sc : Nat → Option Nat) (ρ μ : zM), (q = 0 ∨ q < i) → k ≤ i → w ≤ 4 * (14 - g) → qScB sc → qRS t N i sc ρ → qMS t N k (w + 1) μ → μ.2 25 w = hz_n 2 → μ.2 27 w = hz_n (15 - g : Nat) →
  qGo t F N (r_readPart N (g + 1) ρ (hz_n q) (hz_n (15 - g : Nat))) i k w sc (qNx ρ q i) μ (qR F N μ i) (qQ g sc i k)
theorem qrq_end {t : Nat → Nat} {N F : Nat} {sc : Nat → Option Nat} {ρ : zM} {P : zM → Int32 → Int32 → Option (Int32 × zM)} {a y : Int32} (H : qHy t N F) (h : qRS t N N sc ρ) : r_rq N P ρ a y = some (a, mS ρ 2 (hz_n 1)) := by
  have e0 : ((0 : Nat) : Int) = 0 := rfl
  unfold r_rq
  rw [qsign H h, if_neg (Nat.lt_irrefl N)]
  rw [Option.bind_some, e0, zti0, if_neg (by omega), if_neg (by omega), if_neg (by omega), if_neg (by omega)]
  by_cases hy : 15 ≤ y.toInt
  · rw [if_pos hy]
  · rw [if_neg hy]
    unfold r_readWhole
    rw [zti0, if_neg (by omega), if_neg (by omega), if_neg (by omega), if_neg (by omega), if_neg (by omega)]; rfl
theorem qPart_of {t : Nat → Nat} {F N g : Nat} (H : qHy t N F) (hg : g ≤ 14) (h : qClaim t F N g) : qPart t F N g := by
  intro i k w q sc ρ μ hq hk hw hsc hR hM h25 h27
  have hN := H.2.1
  have hR' := qNx_RS hR hq
  have e1 : r_readPart N (g + 1) ρ (hz_n q) (hz_n (15 - g : Nat)) = r_rq N (r_readPart N g) (qNx ρ q i) (hz_n i) (hz_n (15 - g : Nat)) := by
    show r_rp1 N (r_readPart N g) ρ _ _ = _
    have hi := hR.2.2.2.2.2
    unfold r_rp1 qNx
    rw [hR.2.1, zti0, if_pos rfl, hR.1, zt q (by omega)]
    by_cases h0 : q = 0
    · rw [if_pos (by omega), if_pos h0]
    · rw [if_neg (by omega), if_neg h0, zgd_t (by omega), Int.toNat_natCast]
  rw [e1]
  have hi := hR.2.2.2.2.2
  have hMF : qMF k w μ (mS μ 14 (hz_n w)) := ⟨fun n _ h2 => by rw [mS1, if_neg h2], fun _ _ => rfl, fun _ _ _ _ _ => rfl, fun _ _ => rfl, fun _ _ _ _ _ => rfl⟩
  by_cases hiN : i < N
  · have hC : ∀ f, qR F N μ i (f + 1) = qB F N (hz_n (t i)) (mS μ 14 (hz_n w)) i (15 - g) (f + 1) := by
      intro f
      rw [qR_take H hiN hM (by omega), h25, h27, qB_1]
      unfold m_take2
      have z2 : (hz_n 2).toInt = 2 := zn_ti (by omega)
      rw [z2, if_neg (by omega), if_pos rfl]
    obtain ⟨x, ρ', e, o⟩ := h i k w sc (qNx ρ q i) (mS μ 14 (hz_n w)) hiN hk hw hsc hR' ⟨hM.1, rfl, hM.2.2⟩
    refine ⟨x, ρ', e, ?_⟩
    rcases o with ⟨b1, b2, j, j3, j4, j5, μ', m1, m2⟩ | ⟨j, k', μ', s1, s2, ⟨a1, a2, a3, a4, a5, a6, a7⟩, s4⟩
    · refine .inl ⟨b1, b2, j, j3, j4, j5, μ', qMF_t hMF m1 (Nat.le_refl _) (Nat.le_refl _), fun f => ?_⟩
      have : f + (N + 1 - i) = (f + (N - i)) + 1 := by omega
      rw [this, hC, ← this]; exact m2 f
    · refine .inr ⟨j, k', μ', s1, s2, ⟨a1, a2, a3, a4, qMF_t hMF a5 (Nat.le_refl _) (Nat.le_refl _), fun f => ?_, a7⟩, s4⟩
      have hij := s4.2.1
      have : f + (j - i) = (f + (j - i - 1)) + 1 := by omega
      rw [this, hC, ← this]; exact a6 f
  · have : i = N := by omega
    subst this
    refine ⟨_, _, qrq_end H hR', .inl ⟨rfl, hR'.2.2.1, i, Nat.le_refl _, Nat.le_refl _, hR'.1, μ, qMF_r _ _ _, fun f => ?_⟩⟩
    have : f + (i + 1 - i) = f + 1 := by omega
    rw [this]; exact qR_end H hM (by omega)
-- so many expressions
theorem qParts {t : Nat → Nat} {F N g : Nat} (H : qHy t N F) (hP : qPart t F N g) (hg : g ≤ 13) {i k w c : Nat} {sc : Nat → Option Nat} {ρ μ : zM} (hc : c ≤ 3) (hi : 0 < i) (hk : k ≤ i) (hw : w + c ≤ 4 * (14 - g) + 1) (hsc : qScB sc) :
    ∀ (r m q j k1 e1 : Nat) (ρ1 μ1 : zM), r + m = c → qPre F N i k w ρ μ (qR F N μ i) j k1 ρ1 μ1 → qRS t N j sc ρ1 → qMS t N k1 (w + r) μ1 → (∀ s, w ≤ s → s < w + r → μ1.2 25 s = hz_n 2 ∧ μ1.2 27 s = hz_n (15 - g : Nat))
      → qPs (qW (qA ρ1 μ1) g sc) (qA ρ1 μ1) i k m q j k1 → (0 < m → ρ1.2 1 q = hz_n 0) →
      qGo t F N (r_pl (r_readPart N (g + 1)) (hz_n c) (hz_n (15 - g : Nat)) (r + (e1 + 1)) ρ1 (hz_n q) (hz_n m)) i k w sc ρ μ (qR F N μ i) (fun x j k' ρ' μ' => ∃ q' : Nat, x = hz_n q' ∧ qPs (qW (qA ρ' μ') g sc) (qA ρ' μ') i k c q' j k' ∧ (0 < c → ρ'.2 1 q' = hz_n 0))
  | 0, m, q, j, k1, e1, ρ1, μ1, hrm, pre, hR, hM, hst, ps, hnx => by
    have : m = c := by omega
    subst this
    refine ⟨hz_n q, ρ1, ?_, .inr ⟨j, k1, μ1, hR, hM, pre, q, rfl, ps, hnx⟩⟩
    rw [Nat.zero_add, r_pl, if_pos (by omega)]
  | r + 1, m, q, j, k1, e1, ρ1, μ1, hrm, pre, hR, hM, hst, ps, hnx => by
    have hN := H.2.1
    have hjN := hR.2.2.2.2.2
    have lps := qPs_lt (fun a b c d h => qW_lt h) ps
    have hq : q = 0 ∨ q < j := by
      by_cases h0 : m = 0
      · subst h0; exact .inl ps.1
      · right; omega
    have hs := hst (w + r) (by omega) (by omega)
    obtain ⟨x, ρ2, e, o⟩ := hP j k1 (w + r) q sc ρ1 μ1 hq pre.2.2.1 (by omega) hsc hR hM hs.1 hs.2
    have e0 : r_pl (r_readPart N (g + 1)) (hz_n c) (hz_n (15 - g : Nat)) (r + 1 + (e1 + 1)) ρ1 (hz_n q) (hz_n m) = r_pl (r_readPart N (g + 1)) (hz_n c) (hz_n (15 - g : Nat)) (r + (e1 + 1)) ρ2 x (hz_n (m + 1 : Nat)) := by
      have ef : r + 1 + (e1 + 1) = (r + (e1 + 1)) + 1 := by omega
      rw [ef, r_pl, zt c (by omega), zt m (by omega), if_neg (by omega), e]
      show r_pl _ _ _ (r + (e1 + 1)) ρ2 x (hz_n m + hz_n 1) = _
      rw [zn1]
    rw [e0]
    rcases o with fl | ⟨j2, k2, μ2, s1, s2, pre2, s4⟩
    · refine ⟨x, ρ2, qpl_bad ⟨fl.1, fl.2.1⟩ (by omega) _ _ _ (by omega) (by omega), .inl (qFlt_t pre fl (by omega) hjN)⟩
    · obtain ⟨q1, q2, q3, q4⟩ := s4
      subst q1
      have hpre : qPre F N i k w ρ μ (qR F N μ i) j2 k2 ρ2 μ2 := by
        refine qPre_t pre pre2 (by omega) ⟨qNx1 _ _ _, fun p hp => ?_, qNx2 _ _ _ _ (by decide)⟩ (by have := s1.2.2.2.2.2; omega)
        by_cases h0 : m = 0
        · subst h0; have := ps.1; subst this; rfl
        · exact qNx3 _ _ _ _ (by omega)
      refine qParts H hP hg hc hi hk hw hsc r (m + 1) j j2 k2 e1 ρ2 μ2 (by omega) hpre s1 s2 (fun s h1 h2 => ?_) ?_ (fun _ => q4)
      · have hf := pre2.2.2.2.2.1.2.2.2.2
        rw [hf 25 s (by omega) (by omega) (by omega), hf 27 s (by omega) (by omega) (by omega)]
        exact hst s h1 (by omega)
      · have hrf := pre2.2.2.2.1.2
        have hmf := pre2.2.2.2.2.1
        have t0 : ρ2.2 0 = ρ1.2 0 := by rw [s1.2.2.1, hR.2.2.1]
        refine ⟨q, k1, qPs_ag (fun a b c d h => qW_lt h) (fun a b c d h1 h2 h3 h4 h6 h5 => ?_) (fun p p1 p2 => ?_) ps, ?_, q3⟩
        · refine qW_ag (qAg_F t0 (fun p p1 p2 => ?_) (fun p p1 p2 => ?_) (qMF_w hmf h4)) h5
          · rw [(hrf p (by omega)).2, qNx2 _ _ _ _ (by decide)]
          · rw [(hrf p (by omega)).1, qNx3 _ _ _ _ (by omega)]
        · show ρ2.2 1 p = ρ1.2 1 p
          rw [(hrf p (by omega)).1, qNx3 _ _ _ _ (by omega)]
        · by_cases h0 : m = 0
          · exact .inl h0
          · right
            show ρ2.2 1 q = hz_n j
            rw [(hrf q (by omega)).1, qNx4 _ _ _ (by omega)]

theorem zc97 {c : Nat} (h : 97 ≤ c ∧ c ≤ 122) : hz_n (c : Nat) - hz_n 97 = hz_n ((c - 97 : Nat) : Int) := by rw [zn_sub]; congr 1; omega
theorem zc65 {c : Nat} (h : 65 ≤ c ∧ c ≤ 90) : hz_n (c : Nat) - hz_n 65 = hz_n ((c - 65 : Nat) : Int) := by rw [zn_sub]; congr 1; omega
theorem zc48 {c : Nat} (h : 48 ≤ c ∧ c ≤ 57) : hz_n (c : Nat) - hz_n 48 = hz_n ((c - 48 : Nat) : Int) := by rw [zn_sub]; congr 1; omega
-- a node, and what is due behind it
def qNew (t : Nat → Nat) (N k w w' : Nat) (o v : Int32) (i : Nat) (μ μ' : zM) : Prop := qMS t N (k + 1) w' μ' ∧ qMF k w μ μ' ∧ μ'.2 21 (1040 + k) = o ∧ μ'.2 22 (1040 + k) = v ∧ μ'.2 23 (1040 + k) = hz_n 0 ∧ μ'.2 24 k = hz_n i
theorem qNew_add {t : Nat → Nat} {N k w i : Nat} {o v : Int32} {μ : zM} (hk : k < 40) (h : qMS t N k w μ) : qNew t N k w w o v i μ (m_add μ o v (hz_n i)) := by
  obtain ⟨a1, a2, a3, a4, a5, a6, a7, a8⟩ := qadd (k := k) (w := w) (o := o) (v := v) (p := hz_n i) hk h.1
  exact ⟨⟨a2, by rw [a1 14 (by decide)]; exact h.2.1, fun p hp => by rw [a8 16 (by omega)]; exact h.2.2 p hp⟩, a3, a4, a5, a6, a7⟩
theorem qNew_pu {t : Nat → Nat} {N k w w1 w2 i : Nat} {o v : Int32} {μ μ1 μ2 : zM} (h : qNew t N k w w1 o v i μ μ1) (h' : qPu w1 w2 μ1 μ2) (hw : w ≤ w1) : qNew t N k w w2 o v i μ μ2 := by
  obtain ⟨⟨a1, a2, a3⟩, a4, a5, a6, a7, a8⟩ := h
  refine ⟨⟨by rw [h'.1 13 (by decide)]; exact a1, h'.2.1, fun p hp => by rw [h'.2.2.1 16 (by omega)]; exact a3 p hp⟩, qMF_t a4 (qPu_F h') (Nat.le_refl k) hw, ?_, ?_, ?_, ?_⟩
  · rw [h'.2.2.1 21 (by omega)]; exact a5
  · rw [h'.2.2.1 22 (by omega)]; exact a6
  · rw [h'.2.2.1 23 (by omega)]; exact a7
  · rw [h'.2.2.1 24 (by omega)]; exact a8
-- a sign that is a node of its own
theorem qOne {t : Nat → Nat} {N F i k w d : Nat} {o v : Nat} {vl : Int32} {sc : Nat → Option Nat} {ρ ρ' μ : zM} {g : Nat} {X : Option (Int32 × zM)} (H : qHy t N F) (hi : i < N) (hk : k ≤ i) (hR : qRS t N i sc ρ) (hM : qMS t N k w μ)
    (hX : X = some (hz_n i, ρ')) (hB : m_begin μ F (hz_n (t i)) (hz_n i) (hz_n d) = some (hz_n 1, m_add μ (hz_n o) vl (hz_n i))) (hR' : qRS t N (i + 1) sc ρ') (hF : qRF i ρ ρ') (hn : ρ'.2 1 i = hz_n 0)
    (hA : ∀ A : Nat → Nat → Int32, A 0 i = hz_n (t i) → A 3 k = hz_n o → A 4 k = vl → A 6 k = hz_n i → A 2 i = ρ'.2 2 i → qAtom A i k sc)
    (hs : (ρ'.1 3 = ρ.1 3 ∧ (o = 1 → ρ'.2 2 i ≠ hz_n (-1))) ∨ (o = 1 ∧ ρ'.2 2 i = hz_n (-1) ∧ ρ'.1 3 = if ρ.1 3 = hz_n (-1) then hz_n i else ρ.1 3)) (ho : o ≤ 10) :
    qGo t F N X i k w sc ρ μ (qB F N (hz_n (t i)) μ i d) (qQ g sc i k) := by
  have hN := H.2.1
  obtain ⟨nM, nF, n1, n2, n3, n4⟩ := qNew_add (t := t) (N := N) (i := i) (o := hz_n o) (v := vl) (by omega) hM
  generalize hμ : m_add μ (hz_n o) vl (hz_n i) = μ' at *
  have e6 : qA ρ' μ' 6 k = hz_n i := n4
  have ei : (hz_n (i : Int)).toInt.toNat = i := by rw [zt i (by omega), Int.toNat_natCast]
  refine ⟨hz_n i, ρ', hX, .inr ⟨i + 1, k + 1, μ', hR', nM, ⟨by omega, by omega, by omega, hF, nF, fun f => ?_, ?_, ?_, ?_⟩, rfl, by omega, ?_, hn⟩⟩
  · have : f + (i + 1 - i) = f + 1 := by omega
    rw [this, qB_1, hB, Option.bind_some]
    dsimp only
    rw [zt1, if_neg (by omega)]
  · intro x h1 h2
    have : x = k := by omega
    subst this; exact ⟨i, by omega, e6⟩
  · intro h
    rcases hs with ⟨s1, _⟩ | ⟨_, _, s1⟩
    · exact s1
    · rw [s1, if_neg h]
  · intro h
    rcases hs with ⟨s1, s2⟩ | ⟨s1, s2, s3⟩
    · left; refine ⟨by rw [s1]; exact h, fun x h1 h2 => ?_⟩
      have : x = k := by omega
      subst this
      rintro ⟨c1, c2⟩
      have c1' : hz_n (o : Nat) = hz_n ((1 : Nat) : Int) := n1.symm.trans c1
      have := zn_inj (by omega) (by omega) c1'
      rw [e6, ei] at c2
      exact s2 (by omega) c2
    · right; refine ⟨k, by omega, by omega, ⟨?_, ?_⟩, ?_, fun y h1 h2 => by omega⟩
      · show μ'.2 21 (1040 + k) = _; rw [n1, s1]; rfl
      · rw [e6, ei]; exact s2
      · rw [s3, if_pos h, e6]
  · have ha := hA (qA ρ' μ') (by show ρ'.2 0 i = _; rw [hR'.2.2.1]; rfl) n1 n2 e6 rfl
    match g with
    | 0 => exact ⟨rfl, rfl, ha⟩
    | g + 1 => exact .inl ⟨rfl, rfl, ha⟩
theorem qFltHere {t : Nat → Nat} {N F i k w d : Nat} {sc : Nat → Option Nat} {ρ μ μ' : zM} {X : Option (Int32 × zM)} {Q : Int32 → Nat → Nat → zM → zM → Prop} (hi : i < N) (hR : qRS t N i sc ρ) (hX : X = some (hz_n i, mS ρ 2 (hz_n 1))) (hB : m_begin μ F (hz_n (t i)) (hz_n i) (hz_n d) = some (hz_n 0, μ')) (hF : qMF k w μ μ') : qGo t F N X i k w sc ρ μ (qB F N (hz_n (t i)) μ i d) Q := by
  refine ⟨_, _, hX, .inl ⟨rfl, hR.2.2.1, i, Nat.le_refl _, by omega, hR.1, μ', hF, fun f => ?_⟩⟩
  have : f + (N + 1 - i) = (f + (N - i)) + 1 := by omega
  rw [this, qB_1, hB, Option.bind_some]
  dsimp only
  rw [zti0, if_pos rfl]
theorem qRS_at {t : Nat → Nat} {N i : Nat} {sc : Nat → Option Nat} {ρ : zM} (h : qRS t N i sc ρ) (hi : i < N) : qRS t N (i + 1) sc (mS ρ 1 (hz_n (i + 1 : Nat))) :=
  ⟨rfl, h.2.1, h.2.2.1, h.2.2.2.1, fun p hp => h.2.2.2.2.1 p (by omega), by omega⟩
theorem qAtoms {t : Nat → Nat} {N F i k w g : Nat} {sc : Nat → Option Nat} {ρ μ : zM} {P : zM → Int32 → Int32 → Option (Int32 × zM)} {y : Int32} {d : Nat} (H : qHy t N F) (hi : i < N) (hk : k ≤ i) (hsc : qScB sc) (hR : qRS t N i sc ρ) (hM : qMS t N k w μ)
    (hat : (97 ≤ t i ∧ t i ≤ 122) ∨ (65 ≤ t i ∧ t i ≤ 90) ∨ (48 ≤ t i ∧ t i ≤ 57) ∨ t i = 126) : qGo t F N (r_rq N P ρ (hz_n i) y) i k w sc ρ μ (qB F N (hz_n (t i)) μ i d) (qQ g sc i k) := by
  have hN := H.2.1
  have ht := H.1 i
  have e13 : hz_n ((1040 + k : Nat) : Int) - hz_n 1040 = hz_n k := by rw [zn_sub]; congr 1; omega
  have hB : m_begin μ F (hz_n (t i)) (hz_n i) (hz_n d) = some (hz_n 1, m_add μ (if 97 ≤ t i ∧ t i ≤ 122 then hz_n 1 else if 65 ≤ t i ∧ t i ≤ 90 then hz_n 3 else if 48 ≤ t i ∧ t i ≤ 57 then hz_n 2 else hz_n 4) (if 97 ≤ t i ∧ t i ≤ 122 then hz_n (t i) - hz_n 97 else if 65 ≤ t i ∧ t i ≤ 90 then hz_n (t i) - hz_n 65 else hz_n (t i) - hz_n 48) (hz_n i)) := by
    unfold m_begin
    rw [zt (t i) (by omega), if_pos (by omega), hM.1, zt (1040 + k) (by omega), zgd_t (by omega), e13, zt k (by omega), zgd_t (by omega)]
    congr 3
    · by_cases h1 : 97 ≤ t i ∧ t i ≤ 122
      · rw [if_pos (by omega), if_pos h1]
      · rw [if_neg (by omega), if_neg h1]
        by_cases h2 : 65 ≤ t i ∧ t i ≤ 90
        · rw [if_pos (by omega), if_pos h2]
        · rw [if_neg (by omega), if_neg h2]
          by_cases h3 : 48 ≤ t i ∧ t i ≤ 57
          · rw [if_pos (by omega), if_pos h3]
          · rw [if_neg (by omega), if_neg h3]
    · by_cases h1 : 97 ≤ t i ∧ t i ≤ 122
      · rw [if_pos (by omega), if_pos h1]
      · rw [if_neg (by omega), if_neg h1]
        by_cases h2 : 65 ≤ t i ∧ t i ≤ 90
        · rw [if_pos (by omega), if_pos h2]
        · rw [if_neg (by omega), if_neg h2]
  have hs : r_sign N ρ = some (hz_n (t i)) := by rw [qsign H hR, if_pos hi]
  have hat1 : ρ.1 1 + hz_n 1 = hz_n (i + 1 : Nat) := by rw [hR.1, zn1]
  have hX0 : r_rq N P ρ (hz_n i) y = (if 97 ≤ t i ∧ t i ≤ 122 then (r_useVariable N ρ (hz_n (t i))).bind fun ρ1 => some (hz_n i, mS ρ1 1 (ρ1.1 1 + hz_n 1)) else some (hz_n i, mS ρ 1 (hz_n (i + 1 : Nat)))) := by
    unfold r_rq
    rw [hs, Option.bind_some, zt (t i) (by omega), hat1]
    by_cases h1 : 97 ≤ t i ∧ t i ≤ 122
    · rw [if_pos (by omega), if_pos h1]
    · rw [if_neg (by omega), if_neg h1]
      by_cases h3 : 48 ≤ t i ∧ t i ≤ 57
      · rw [if_pos (by omega)]
      · rw [if_neg (by omega)]
        by_cases h2 : 65 ≤ t i ∧ t i ≤ 90
        · rw [if_pos (by omega)]
        · rw [if_neg (by omega), if_pos (by omega)]
  by_cases h1 : 97 ≤ t i ∧ t i ≤ 122
  · rw [if_pos h1, if_pos h1, zc97 h1] at hB
    rw [if_pos h1] at hX0
    unfold r_useVariable at hX0
    rw [zc97 h1, zt (t i - 97) (by omega), zgd_t (by omega), hR.1, zt i (by omega), zgd_t (by omega), Int.toNat_natCast, Int.toNat_natCast, hR.2.2.2.1 (t i - 97) (by omega)] at hX0
    have hsx : ∀ b : Nat, sc (t i - 97) = some b → qsc sc (t i - 97) = hz_n b := fun b hb => by unfold qsc; rw [hb]
    have hA : ∀ (x : Int32), ∀ A : Nat → Nat → Int32, A 0 i = hz_n (t i) → A 3 k = hz_n ((1 : Nat) : Int) → A 4 k = hz_n ((t i - 97 : Nat) : Int) → A 6 k = hz_n i → A 2 i = x → x = qsc sc (t i - 97) → qAtom A i k sc := by
      intro x A a0 a3 a4 a6 a2 ax
      exact .inl ⟨t i - 97, by omega, ⟨by rw [a0]; congr 1; omega, a3, a6⟩, a4, a2.trans ax⟩
    have hmA : (mA ρ 2 i (qsc sc (t i - 97))).2 2 i = qsc sc (t i - 97) := by rw [mA2, if_pos rfl, if_pos rfl]
    have hRF : ∀ ρ', ρ'.1 0 = ρ.1 0 → ρ'.2 = (mA ρ 2 i (qsc sc (t i - 97))).2 → qRF i ρ ρ' := by
      intro ρ' e0 e
      refine ⟨e0, fun p hp => ⟨?_, ?_⟩⟩
      · rw [e, mA2n _ _ _ _ _ (by decide)]
      · rw [e, mA2, if_pos rfl, if_neg (by omega)]
    have hRR : ∀ ρ' : zM, ρ'.1 1 = hz_n (i + 1 : Nat) → ρ'.1 2 = ρ.1 2 → ρ'.2 = (mA ρ 2 i (qsc sc (t i - 97))).2 → qRS t N (i + 1) sc ρ' := by
      intro ρ' e1 e2 e
      refine ⟨e1, e2.trans hR.2.1, ?_, fun v hv => ?_, fun p hp => ?_, by omega⟩
      · rw [e, mA2n _ _ _ _ _ (by decide)]; exact hR.2.2.1
      · rw [e, mA2n _ _ _ _ _ (by decide)]; exact hR.2.2.2.1 v hv
      · rw [e, mA2n _ _ _ _ _ (by decide)]; exact hR.2.2.2.2.1 p (by omega)
    have hnx : ∀ ρ' : zM, ρ'.2 = (mA ρ 2 i (qsc sc (t i - 97))).2 → ρ'.2 1 i = hz_n 0 := by
      intro ρ' e
      rw [e, mA2n _ _ _ _ _ (by decide)]; exact hR.2.2.2.2.1 i (Nat.le_refl _)
    cases hv : sc (t i - 97) with
    | some b =>
      have hb := hsc _ _ hv
      have hne : qsc sc (t i - 97) ≠ hz_n (-1) := by
        rw [hsx b hv]; intro e; have := zn_inj (by omega) (by omega) e; omega
      rw [if_neg (by rw [hsx b hv, zt b (by omega)]; omega)] at hX0
      refine qOne (o := 1) (v := 0) H hi hk hR hM hX0 hB (hRR _ ?_ rfl rfl) (hRF _ rfl rfl) (hnx _ rfl) (fun A a0 a3 a4 a6 a2 => hA _ A a0 a3 a4 a6 a2 hmA) (.inl ⟨rfl, fun _ => ?_⟩) (by omega)
      · show ρ.1 1 + hz_n 1 = _; exact hat1
      · show (mA ρ 2 i (qsc sc (t i - 97))).2 2 i ≠ _; rw [hmA]; exact hne
    | none =>
      have he : qsc sc (t i - 97) = hz_n (-1) := by unfold qsc; rw [hv]
      have zm : (hz_n (-1)).toInt = -1 := zn_ti (by omega)
      rw [if_pos (by rw [he, zm])] at hX0
      by_cases h3 : (ρ.1 3).toInt = -1
      · have h3' : ρ.1 3 = hz_n (-1) := by rw [← h3, zn_of]
        rw [if_pos h3] at hX0
        refine qOne (o := 1) (v := 0) H hi hk hR hM hX0 hB (hRR _ ?_ rfl rfl) (hRF _ rfl rfl) (hnx _ rfl) (fun A a0 a3 a4 a6 a2 => hA _ A a0 a3 a4 a6 a2 hmA) (.inr ⟨rfl, ?_, ?_⟩) (by omega)
        · show ρ.1 1 + hz_n 1 = _; exact hat1
        · show (mA ρ 2 i (qsc sc (t i - 97))).2 2 i = _; rw [hmA]; exact he
        · rw [if_pos h3']; rfl
      · have h3' : ρ.1 3 ≠ hz_n (-1) := by intro e; rw [e, zm] at h3; exact h3 rfl
        rw [if_neg h3] at hX0
        refine qOne (o := 1) (v := 0) H hi hk hR hM hX0 hB (hRR _ ?_ rfl rfl) (hRF _ rfl rfl) (hnx _ rfl) (fun A a0 a3 a4 a6 a2 => hA _ A a0 a3 a4 a6 a2 hmA) (.inr ⟨rfl, ?_, ?_⟩) (by omega)
        · show ρ.1 1 + hz_n 1 = _; exact hat1
        · show (mA ρ 2 i (qsc sc (t i - 97))).2 2 i = _; rw [hmA]; exact he
        · rw [if_neg h3']; rfl
  · rw [if_neg h1] at hX0
    rw [if_neg h1, if_neg h1] at hB
    have hRF : qRF i ρ (mS ρ 1 (hz_n (i + 1 : Nat))) := ⟨rfl, fun _ _ => ⟨rfl, rfl⟩⟩
    have hnx : (mS ρ 1 (hz_n (i + 1 : Nat))).2 1 i = hz_n 0 := hR.2.2.2.2.1 i (Nat.le_refl _)
    by_cases h2 : 65 ≤ t i ∧ t i ≤ 90
    · rw [if_pos h2, if_pos h2, zc65 h2] at hB
      exact qOne (o := 3) (v := 0) H hi hk hR hM hX0 hB (qRS_at hR hi) hRF hnx (fun A a0 a3 a4 a6 a2 => .inr (.inr (.inl ⟨t i - 65, by omega, ⟨by rw [a0]; congr 1; omega, a3, a6⟩, a4⟩))) (.inl ⟨rfl, fun h => by omega⟩) (by omega)
    · rw [if_neg h2, if_neg h2] at hB
      by_cases h3 : 48 ≤ t i ∧ t i ≤ 57
      · rw [if_pos h3, zc48 h3] at hB
        exact qOne (o := 2) (v := 0) H hi hk hR hM hX0 hB (qRS_at hR hi) hRF hnx (fun A a0 a3 a4 a6 a2 => .inr (.inl ⟨t i - 48, by omega, ⟨by rw [a0]; congr 1; omega, a3, a6⟩, a4⟩)) (.inl ⟨rfl, fun h => by omega⟩) (by omega)
      · rw [if_neg h3] at hB
        have h4 : t i = 126 := by omega
        exact qOne (o := 4) (v := 0) H hi hk hR hM hX0 hB (qRS_at hR hi) hRF hnx (fun A a0 a3 a4 a6 a2 => .inr (.inr (.inr ⟨by rw [a0, h4], a3, a6⟩))) (.inl ⟨rfl, fun h => by omega⟩) (by omega)

theorem qWPre {t : Nat → Nat} {N F i k w w' d o : Nat} {v : Int32} {ρ μ μ1 : zM} (H : qHy t N F) (hi : i < N) (hk : k ≤ i) (hB : m_begin μ F (hz_n (t i)) (hz_n i) (hz_n d) = some (hz_n 1, μ1)) (hn : qNew t N k w w' (hz_n o) v i μ μ1) (ho : o ≠ 1 ∧ o ≤ 10) :
    qPre F N i k w ρ μ (qB F N (hz_n (t i)) μ i d) (i + 1) (k + 1) (mS ρ 1 (hz_n (i + 1 : Nat))) μ1 := by
  have hN := H.2.1
  obtain ⟨nM, nF, n1, n2, n3, n4⟩ := hn
  refine ⟨by omega, by omega, by omega, ⟨rfl, fun _ _ => ⟨rfl, rfl⟩⟩, nF, fun f => ?_, fun x h1 h2 => ?_, fun _ => rfl, fun h => .inl ⟨h, fun x h1 h2 => ?_⟩⟩
  · have : f + (i + 1 - i) = f + 1 := by omega
    rw [this, qB_1, hB, Option.bind_some]
    dsimp only
    rw [zt1, if_neg (by omega)]
  · have : x = k := by omega
    subst this; exact ⟨i, by omega, n4⟩
  · have : x = k := by omega
    subst this
    rintro ⟨c1, _⟩
    have c1' : hz_n (o : Nat) = hz_n ((1 : Nat) : Int) := n1.symm.trans c1
    have := zn_inj (by omega) (by omega) c1'
    omega
theorem qPlain {t : Nat → Nat} {N F i k w g c o m : Nat} {sc : Nat → Option Nat} {ρ μ μ1 : zM} {X : Option (Int32 × zM)} {v : Int32} (H : qHy t N F) (hP : qPart t F N g) (hg : g ≤ 13) (hi : i < N) (hk : k ≤ i) (hw : w ≤ 4 * (14 - (g + 1))) (hsc : qScB sc) (hR : qRS t N i sc ρ) (hc : t i = c)
    (hX : X = (r_readParts (r_readPart N (g + 1)) (mS ρ 1 (hz_n (i + 1 : Nat))) (hz_n m) (hz_n (15 - g : Nat))).bind fun q => some (hz_n i, q.2))
    (hB : m_begin μ F (hz_n (t i)) (hz_n i) (hz_n (15 - (g + 1) : Nat)) = some (hz_n 1, μ1)) (hn : qNew t N k w (w + m) (hz_n o) v i μ μ1) (hst : ∀ s, w ≤ s → s < w + m → μ1.2 25 s = hz_n 2 ∧ μ1.2 27 s = hz_n (15 - g : Nat))
    (hm : 2 ≤ m ∧ m ≤ 3) (hK : ∀ A : Nat → Nat → Int32, A 4 k = v → qKind A k c o m 0) (ho : o ≠ 1 ∧ o ≤ 10) :
    qGo t F N X i k w sc ρ μ (qB F N (hz_n (t i)) μ i (15 - (g + 1))) (qQ (g + 1) sc i k) := by
  have hN := H.2.1
  have pre := qWPre (ρ := ρ) H hi hk hB hn ho
  obtain ⟨nM, nF, n1, n2, n3, n4⟩ := hn
  have hR0 := qRS_at hR hi
  obtain ⟨x, ρ2, e, oc⟩ := qParts H hP hg (i := i + 1) (k := k + 1) (w := w) (c := m) (sc := sc) (ρ := mS ρ 1 (hz_n (i + 1 : Nat))) (μ := μ1) hm.2 (by omega) (by omega) (by omega) hsc m 0 0 (i + 1) (k + 1) (4 - m) (mS ρ 1 (hz_n (i + 1 : Nat))) μ1 (by omega) (qPre_r (by omega)) hR0 nM hst ⟨rfl, rfl, rfl⟩ (fun h => by omega)
  have e5 : m + (4 - m + 1) = 5 := by omega
  rw [e5] at e
  have e' : r_readParts (r_readPart N (g + 1)) (mS ρ 1 (hz_n (i + 1 : Nat))) (hz_n m) (hz_n (15 - g : Nat)) = some (x, ρ2) := e
  rw [e', Option.bind_some] at hX
  refine ⟨hz_n i, ρ2, hX, ?_⟩
  rcases oc with fl | ⟨j, k', μ2, s1, s2, pre2, q, q1, q2, q3⟩
  · exact .inl (qFlt_t pre fl (Nat.le_refl _) (by omega))
  · have hj := s1.2.2.2.2.2
    have lps := qPs_lt (fun a b c d h => qW_lt h) q2
    refine .inr ⟨j, k', μ2, s1, s2, qPre_t pre pre2 (Nat.le_refl _) ⟨rfl, fun _ _ => rfl, rfl⟩ (by omega), rfl, by omega, ?_, ?_⟩
    · have hmf := pre2.2.2.2.2.1
      have a3 : qA ρ2 μ2 3 k = hz_n o := (hmf.2.2.1 21 _ (by omega) (by omega) (by omega)).trans n1
      have a4 : qA ρ2 μ2 4 k = v := (hmf.2.2.1 22 _ (by omega) (by omega) (by omega)).trans n2
      have a6 : qA ρ2 μ2 6 k = hz_n i := (hmf.2.2.2.1 k (by omega)).trans n4
      exact .inr (.inl ⟨c, o, m, 0, q, j, hK _ a4, ⟨by show ρ2.2 0 i = _; rw [s1.2.2.1, ← hc]; rfl, a3, a6⟩, q2, q3 (by omega), rfl⟩)
    · rw [(pre2.2.2.2.1.2 i (by omega)).1]
      exact hR.2.2.2.2.1 i (Nat.le_refl _)
-- the beginnings of wholes
theorem qguard {t : Nat → Nat} {N k w : Nat} {μ : zM} (hk : k < 40) (hM : qMS t N k w μ) {α : Type} (X : Option α) : zgd (0 ≤ (μ.1 13).toInt ∧ (μ.1 13).toInt < 1080) (zgd (0 ≤ (μ.1 13 - hz_n 1040).toInt ∧ (μ.1 13 - hz_n 1040).toInt < 40) X) = X := by
  have e13 : hz_n ((1040 + k : Nat) : Int) - hz_n 1040 = hz_n k := by rw [zn_sub]; congr 1; omega
  rw [hM.1, zt (1040 + k) (by omega), zgd_t (by omega), e13, zt k (by omega), zgd_t (by omega)]
theorem qBegP {t : Nat → Nat} {N F i k w d r : Nat} {o v : Int32} {μ : zM} (H : qHy t N F) (hk : k < 40) (hw : w + r ≤ 120) (hr : r ≤ 5) (hM : qMS t N k w μ) :
    ∃ μ1, m_pushE (m_add μ o v (hz_n i)) F (hz_n r) (hz_n (d : Nat) + hz_n 1) = some μ1 ∧ qNew t N k w (w + r) o v i μ μ1 ∧ ∀ s, w ≤ s → s < w + r → μ1.2 25 s = hz_n 2 ∧ μ1.2 27 s = hz_n (d + 1 : Nat) := by
  have n := qNew_add (t := t) (N := N) (i := i) (o := o) (v := v) hk hM
  obtain ⟨μ1, a1, a2, a3⟩ := qpushE (d := hz_n (d + 1 : Nat)) H hr hw n.1.2.1
  exact ⟨μ1, by rw [zn1]; exact a1, qNew_pu n a2 (Nat.le_refl _), a3⟩
theorem qKinds {t : Nat → Nat} {N F i k w g : Nat} {sc : Nat → Option Nat} {ρ μ : zM} (H : qHy t N F) (hP : qPart t F N g) (hg : g ≤ 13) (hi : i < N) (hk : k ≤ i) (hw : w ≤ 4 * (14 - (g + 1))) (hsc : qScB sc) (hR : qRS t N i sc ρ) (hM : qMS t N k w μ)
    (hc : t i = 58 ∨ t i = 42 ∨ t i = 43 ∨ t i = 45 ∨ t i = 60 ∨ t i = 61 ∨ t i = 63) :
    qGo t F N ((r_readWhole N (r_readPart N (g + 1)) ρ (hz_n (t i)) (hz_n (15 - g : Nat))).bind fun ρ1 => some (hz_n i, ρ1)) i k w sc ρ μ (qB F N (hz_n (t i)) μ i (15 - (g + 1))) (qQ (g + 1) sc i k) := by
  have hN := H.2.1
  have ht := H.1 i
  have hd : (15 - (g + 1) : Nat) + 1 = 15 - g := by omega
  have hd0 : ((15 - (g + 1) : Nat) : Int) ≠ 15 := by omega
  have hat1 : ρ.1 1 + hz_n 1 = hz_n (i + 1 : Nat) := by rw [hR.1, zn1]
  by_cases h58 : t i = 58
  · obtain ⟨μ1, b1, b2, b3⟩ := qBegP (i := i) (d := 15 - (g + 1)) (r := 2) (o := hz_n 5) (v := hz_n 0) H (by omega) (by omega) (by omega) hM
    rw [hd] at b3
    refine qPlain (c := 58) (o := 5) (m := 2) (v := hz_n 0) H hP hg hi hk hw hsc hR h58 ?_ ?_ b2 b3 (by omega) (fun A a4 => .inl ⟨rfl, rfl, rfl, rfl, a4⟩) (by omega)
    · unfold r_readWhole
      rw [zt (t i) (by omega), if_pos (by omega), hat1, Option.bind_assoc]; rfl
    · unfold m_begin
      rw [zt (t i) (by omega), if_neg (by omega), zt (15 - (g + 1)) (by omega), if_neg hd0, if_pos (by omega), qguard (by omega) hM]
      have := b1
      show (m_pushE (m_add μ (hz_n 5) (hz_n 0) (hz_n i)) F (hz_n ((2 : Nat) : Int)) _).bind _ = _
      rw [b1]; rfl
  · by_cases h63 : t i = 63
    · obtain ⟨μ1, b1, b2, b3⟩ := qBegP (i := i) (d := 15 - (g + 1)) (r := 3) (o := hz_n 8) (v := hz_n 0) H (by omega) (by omega) (by omega) hM
      rw [hd] at b3
      refine qPlain (c := 63) (o := 8) (m := 3) (v := hz_n 0) H hP hg hi hk hw hsc hR h63 ?_ ?_ b2 b3 (by omega) (fun A a4 => .inr (.inr (.inl ⟨rfl, rfl, rfl, rfl, a4⟩))) (by omega)
      · unfold r_readWhole
        rw [zt (t i) (by omega), if_neg (by omega), if_pos (by omega), hat1, Option.bind_assoc]; rfl
      · unfold m_begin
        rw [zt (t i) (by omega), if_neg (by omega), zt (15 - (g + 1)) (by omega), if_neg hd0, if_neg (by omega), if_neg (by omega), if_pos (by omega), qguard (by omega) hM]
        show (m_pushE (m_add μ (hz_n 8) (hz_n 0) (hz_n i)) F (hz_n ((3 : Nat) : Int)) _).bind _ = _
        rw [b1]; rfl
    · obtain ⟨μ1, b1, b2, b3⟩ := qBegP (i := i) (d := 15 - (g + 1)) (r := 2) (o := hz_n 7) (v := hz_n (t i)) H (by omega) (by omega) (by omega) hM
      rw [hd] at b3
      refine qPlain (c := t i) (o := 7) (m := 2) (v := hz_n (t i)) H hP hg hi hk hw hsc hR rfl ?_ ?_ b2 b3 (by omega) (fun A a4 => .inr (.inl ⟨by omega, rfl, rfl, rfl, a4⟩)) (by omega)
      · unfold r_readWhole
        rw [zt (t i) (by omega), if_pos (by omega), hat1, Option.bind_assoc]; rfl
      · unfold m_begin
        rw [zt (t i) (by omega), if_neg (by omega), zt (15 - (g + 1)) (by omega), if_neg hd0, if_neg (by omega), if_pos (by omega), qguard (by omega) hM]
        show (m_pushE (m_add μ (hz_n 7) (hz_n (t i)) (hz_n i)) F (hz_n ((2 : Nat) : Int)) _).bind _ = _
        rw [b1]; rfl
