-- the room: what the texts of definitions allow
def bCap (S : zG) (l : Nat) : Prop := sumN (fun p => ind (s_cl S l p = 2)) 40 ≤ 18 ∧ (s_op S l (s_pc S l + 1) < 5 → s_n S l = s_pc S l + 2)
  ∧ (∀ q, s_cl S l q = 1 → s_ro S l q = 2 → 2 ≤ q ∧ s_cl S l (q - 1) = 2 ∧ s_pa S l q = q - 2 ∧ s_cl S l (q - 2) = 1 ∧ s_op S l (q - 2) = 10)
theorem sumN_block {f K : Nat → Nat} : ∀ {e : Nat}, (∀ i, i < e → sumN (fun p => f (40 * i + p)) 40 ≤ K i) → sumN f (40 * e) ≤ sumN K e
  | 0, _ => Nat.le_refl _
  | e + 1, h => by
    have h1 := sumN_block (e := e) (fun i hi => h i (by omega))
    have h2 := h e (by omega)
    have e1 : 40 * (e + 1) = 40 * e + 40 := by omega
    rw [e1, sumN_split]
    show _ ≤ sumN K e + K e
    omega
theorem sumN_add {f g : Nat → Nat} : ∀ {n : Nat}, sumN (fun c => f c + g c) n = sumN f n + sumN g n
  | 0 => rfl
  | n + 1 => by
    show sumN (fun c => f c + g c) n + (f n + g n) = sumN f n + f n + (sumN g n + g n)
    rw [sumN_add (n := n)]; omega
theorem sumN_shift {f : Nat → Nat} : ∀ {n : Nat}, sumN (fun y => f (y + 1)) n + f 0 = sumN f (n + 1)
  | 0 => by show 0 + f 0 = 0 + f 0; rfl
  | n + 1 => by
    show sumN (fun y => f (y + 1)) n + f (n + 1) + f 0 = sumN f (n + 1) + f (n + 1)
    have := sumN_shift (f := f) (n := n); omega
theorem sumN_ind_le {p : Nat → Prop} {a b : Nat} (h : ∀ y, p y → a ≤ y ∧ y < b) (n : Nat) : sumN (fun y => ind (p y)) n ≤ b - a := by
  have h1 : ∀ n, n ≤ a → sumN (fun y => ind (p y)) n = 0 := by
    intro n
    induction n with
    | zero => intro _; rfl
    | succ n ih =>
      intro hn
      show sumN (fun y => ind (p y)) n + ind (p n) = 0
      rw [ih (by omega), ind_f (fun hp => by have := h n hp; omega)]
  have h2 : ∀ k, sumN (fun y => ind (p y)) (a + k) ≤ b - a ∧ sumN (fun y => ind (p y)) (a + k) ≤ k := by
    intro k
    induction k with
    | zero => rw [Nat.add_zero, h1 a (Nat.le_refl _)]; omega
    | succ k ih =>
      show sumN (fun y => ind (p y)) (a + k) + ind (p (a + k)) ≤ _ ∧ sumN (fun y => ind (p y)) (a + k) + ind (p (a + k)) ≤ _
      have := ind_le (p (a + k))
      by_cases hb : a + k < b
      · omega
      · rw [ind_f (fun hp => by have := h (a + k) hp; omega)]; omega
  by_cases hn : n ≤ a
  · rw [h1 n hn]; omega
  · have := (h2 (n - a)).1
    have e : a + (n - a) = n := by omega
    rw [e] at this; exact this
theorem ind5 {a b c d e o : Prop} (h1 : a → o) (h2 : b → o) (h3 : c → o) (h4 : d → o) (h5 : e → o) (ab : a → ¬ b) (ac : a → ¬ c) (ad : a → ¬ d) (ae : a → ¬ e) (bc : b → ¬ c) (bd : b → ¬ d) (be : b → ¬ e) (cd : c → ¬ d) (ce : c → ¬ e) (de : d → ¬ e) :
    ind a + ind b + ind c + ind d + ind e ≤ ind o := by
  by_cases ha : a
  · rw [ind_t ha, ind_f (ab ha), ind_f (ac ha), ind_f (ad ha), ind_f (ae ha), ind_t (h1 ha)]; omega
  · rw [ind_f ha]
    by_cases hb : b
    · rw [ind_t hb, ind_f (bc hb), ind_f (bd hb), ind_f (be hb), ind_t (h2 hb)]; omega
    · rw [ind_f hb]
      by_cases hc : c
      · rw [ind_t hc, ind_f (cd hc), ind_f (ce hc), ind_t (h3 hc)]; omega
      · rw [ind_f hc]
        by_cases hd : d
        · rw [ind_t hd, ind_f (de hd), ind_t (h4 hd)]; omega
        · rw [ind_f hd]
          by_cases he : e
          · rw [ind_t he, ind_t (h5 he)]; omega
          · rw [ind_f he]; omega
theorem ind_split {p q : Prop} : ind p = ind (p ∧ q) + ind (p ∧ ¬ q) := by
  by_cases hp : p
  · by_cases hq : q
    · rw [ind_t hp, ind_t ⟨hp, hq⟩, ind_f (fun h => h.2 hq)]
    · rw [ind_t hp, ind_f (fun h => hq h.2), ind_t ⟨hp, hq⟩]
  · rw [ind_f hp, ind_f (fun h => hp h.1), ind_f (fun h => hp h.1)]
-- the promises of one entry
theorem bEntry {E : Nat → Option zT} {dfs : Nat → Option Nat} {ST : Nat → Nat → Int32} {F l0 am : Nat} {S : zG} {s : zD} (st : bSta E dfs ST F S) (I : bInv S dfs ST l0 am s) {i : Nat} (hi : i < de s) (cap : bCap S (dl s i)) :
    sumN (fun p => 2 * c_om S s (40 * i + p) + c_nm S s (40 * i + p)) 40 ≤ sumN (fun p => c_st S s (40 * i + p)) 40 + (37 + 2 * ind (s_pc S (dl s i) = 0)) := by
  obtain ⟨T, D⟩ := bDefs_of st I i hi
  obtain ⟨_, cap2, cap3⟩ := cap
  have hcel := I.2.2.2.2.2.2.2 i
  let X : Nat → Prop := fun y => s_cl S (dl s i) y = 1
  have hXy : ∀ y, y < 40 → (bX S s (40 * i + y) ↔ X y) := fun y hy => bX_of hy
  have hdiv : ∀ y, y < 40 → (40 * i + y) / 40 = i ∧ (40 * i + y) % 40 = y := fun y hy => ⟨by omega, by omega⟩
  let OM : Nat → Prop := fun y => X y ∧ bOwn S (dl s i) y ∧ dg s (40 * i + y) ≠ none
  let KS : Nat → Prop := fun y => ks s (40 * i + y) = hz_n 0
  let CP : Nat → Prop := fun y => 5 ≤ s_op S (dl s i) y ∧ s_ro S (dl s i) y ≠ 2
  have eom : ∀ y, y < 40 → c_om S s (40 * i + y) = ind (OM y) := by
    intro y hy
    unfold c_om
    refine ind_c ?_
    rw [hXy y hy, (hdiv y hy).1, (hdiv y hy).2]
  have est : ∀ y, y < 40 → c_st S s (40 * i + y) = ind (OM y ∧ ¬ KS y) := by
    intro y hy
    unfold c_st
    refine ind_c ?_
    rw [hXy y hy, (hdiv y hy).1, (hdiv y hy).2]
    exact ⟨fun ⟨a, b, c, d⟩ => ⟨⟨a, b, c⟩, d⟩, fun ⟨⟨a, b, c⟩, d⟩ => ⟨a, b, c, d⟩⟩
  have enm : ∀ y, y < 40 → c_nm S s (40 * i + y) = ind (X y ∧ s_op S (dl s i) y = 1 ∧ ¬ KS y) := by
    intro y hy
    unfold c_nm
    refine ind_c ?_
    rw [hXy y hy, (hdiv y hy).1, (hdiv y hy).2]
  have hroot := D.2.2.2.2.2.2.2.1
  have hroot3 := D.2.2.2.2.2.2.2.2.1
  have hn40 := D.2.1
  have hX40 : ∀ y, X y → y < s_n S (dl s i) ∧ s_pc S (dl s i) < y := fun y hy => ⟨(D.2.2.2.2.2.2.2.2.2.2.2.2.2 y hy).1, (D.2.2.2.2.2.2.2.2.2.2.2.2.2 y hy).2.1⟩
  have hb40 : ∀ y, s_cl S (dl s i) y = 2 → y < s_n S (dl s i) := fun y hy => D.2.2.2.2.2.2.2.2.2.2.2.2.1 y hy
  have hro3 : ∀ y, s_ro S (dl s i) y = 3 → y = s_pc S (dl s i) + 1 := D.2.2.2.2.2.2.2.2.2.2.2.1.1
  -- a compound that is untouched: its first part is neither made nor touched
  have key : ∀ y, X y → CP y → KS y → (s_cl S (dl s i) (y + 1) = 2 ∧ s_op S (dl s i) y = 10) ∨ (X (y + 1) ∧ s_ro S (dl s i) (y + 1) ≤ 1 ∧ dg s (40 * i + (y + 1)) = none ∧ KS (y + 1)) := by
    intro y hx hc hk
    have sh := bShp_of D hx
    have hop := bShop sh
    have hc1 := hc.1
    obtain ⟨v1, v2⟩ := (hcel y hi hx).1 hk
    by_cases o10 : s_op S (dl s i) y = 10
    · exact Or.inl ⟨(bSh10 sh o10).2.2.2.2.2.1, o10⟩
    · refine Or.inr ?_
      by_cases o5 : s_op S (dl s i) y = 5
      · have k0 := (bSh5 sh o5).2.1
        have hgn := (v1 _ k0.1 k0.2.1).2
        exact ⟨k0.1, by rw [k0.2.2.1]; exact Nat.le_refl _, hgn, (hcel _ hi k0.1).2.2 (Or.inl k0.2.2.1) hgn⟩
      · have k0 : bKid ST F S (dl s i) y 0 (y + 1) 0 := by
          have : s_op S (dl s i) y = 6 ∨ s_op S (dl s i) y = 7 ∨ s_op S (dl s i) y = 8 ∨ s_op S (dl s i) y = 9 := by omega
          rcases this with o | o | o | o
          · exact (bSh6 sh o).2.1
          · exact (bSh7 sh o).2.2.1
          · exact (bSh8 sh o).2.1
          · exact (bSh9 sh o).2.1
        exact ⟨k0.1, by rw [k0.2.2.1]; omega, (v1 _ k0.1 k0.2.1).2, (v1 _ k0.1 k0.2.1).1 k0.2.2.1⟩
  -- places that may be charged
  let OC : Nat → Prop := fun y => (s_pc S (dl s i) < y ∧ y < s_n S (dl s i) ∧ ¬ (y = s_pc S (dl s i) + 1 ∧ 0 < s_pc S (dl s i) ∧ 5 ≤ s_op S (dl s i) (s_pc S (dl s i) + 1))) ∨ (y = s_pc S (dl s i) ∧ s_pc S (dl s i) = 0 ∧ s_op S (dl s i) (s_pc S (dl s i) + 1) < 5)
  have point : ∀ y, ind (OM y ∧ CP y) + ind (OM (y + 1) ∧ ¬ CP (y + 1)) + ind (1 ≤ y ∧ (OM (y - 1) ∧ KS (y - 1)) ∧ CP (y - 1)) + ind ((OM y ∧ KS y) ∧ ¬ CP y) + ind (X y ∧ s_op S (dl s i) y = 1 ∧ ¬ KS y) ≤ ind (OC y) := by
    intro y
    -- a made one that is no compound: a let's first part, or a root that is an atom
    have ncp : ∀ q, OM q → ¬ CP q → (2 ≤ q ∧ s_cl S (dl s i) (q - 1) = 2 ∧ s_pa S (dl s i) q = q - 2 ∧ s_cl S (dl s i) (q - 2) = 1 ∧ s_op S (dl s i) (q - 2) = 10 ∧ s_ro S (dl s i) q = 2) ∨ (q = s_pc S (dl s i) + 1 ∧ s_pc S (dl s i) = 0 ∧ s_op S (dl s i) q < 5 ∧ s_ro S (dl s i) q = 3) := by
      intro q hq hn
      rcases hq.2.1 with h | ⟨h, h'⟩ | ⟨h, h'⟩
      · obtain ⟨a1, a2, a3, a4, a5⟩ := cap3 q hq.1 h
        exact Or.inl ⟨a1, a2, a3, a4, a5, h⟩
      · refine Or.inr ⟨hro3 q h, h', ?_, h⟩
        by_cases h5 : 5 ≤ s_op S (dl s i) q
        · exact absurd ⟨h5, by omega⟩ hn
        · omega
      · exact absurd ⟨h', by omega⟩ hn
    have xcl2 : ∀ q, X q → s_cl S (dl s i) q = 2 → False := by
      intro q h1 h2
      have h1' : s_cl S (dl s i) q = 1 := h1
      omega
    refine ind5 ?_ ?_ ?_ ?_ ?_ ?_ ?_ ?_ ?_ ?_ ?_ ?_ ?_ ?_ ?_
    · -- a → OC
      rintro ⟨hm, hc⟩
      obtain ⟨h1, h2⟩ := hX40 y hm.1
      refine Or.inl ⟨h2, h1, ?_⟩
      rintro ⟨e, hp, _⟩
      rcases hm.2.1 with h | ⟨_, h⟩ | ⟨h, _⟩
      · exact hc.2 h
      · omega
      · rw [e, hroot3] at h; omega
    · rintro ⟨hm, hn⟩
      rcases ncp _ hm hn with ⟨h1, h2, _, h4, h5, _⟩ | ⟨h1, h2, h3, _⟩
      · have e1 : y + 1 - 1 = y := by omega
        have e2 : y + 1 - 2 = y - 1 := by omega
        rw [e1] at h2
        rw [e2] at h4
        have := hb40 y h2
        have := (hX40 (y - 1) h4).2
        exact Or.inl ⟨by omega, by omega, fun h => by omega⟩
      · have e : y = s_pc S (dl s i) := by omega
        exact Or.inr ⟨e, h2, by rw [← h1]; exact h3⟩
    · rintro ⟨h1, ⟨hm, hk⟩, hc⟩
      have hx := hX40 (y - 1) hm.1
      have e : y - 1 + 1 = y := by omega
      rcases key (y - 1) hm.1 hc hk with ⟨h, _⟩ | ⟨h, _⟩
      · rw [e] at h
        have := hb40 y h
        exact Or.inl ⟨by omega, by omega, fun h => by omega⟩
      · rw [e] at h
        have := hX40 y h
        exact Or.inl ⟨by omega, by omega, fun h => by omega⟩
    · rintro ⟨⟨hm, _⟩, hn⟩
      obtain ⟨h1, h2⟩ := hX40 y hm.1
      refine Or.inl ⟨h2, h1, ?_⟩
      rintro ⟨e, hp, _⟩
      rcases ncp _ hm hn with ⟨_, _, _, _, _, h⟩ | ⟨_, h, _⟩
      · rw [e, hroot3] at h; omega
      · omega
    · rintro ⟨hx, ho, _⟩
      obtain ⟨h1, h2⟩ := hX40 y hx
      refine Or.inl ⟨h2, h1, ?_⟩
      rintro ⟨e, _, h⟩
      rw [← e] at h; omega
    · rintro ⟨hm, hc⟩ ⟨hm', hn'⟩
      rcases ncp _ hm' hn' with ⟨_, h2, _⟩ | ⟨h1, _⟩
      · have e1 : y + 1 - 1 = y := by omega
        rw [e1] at h2; exact xcl2 y hm.1 h2
      · have := (hX40 y hm.1).2; omega
    · rintro ⟨hm, hc⟩ ⟨h1, ⟨hm', hk'⟩, hc'⟩
      have e : y - 1 + 1 = y := by omega
      rcases key (y - 1) hm'.1 hc' hk' with ⟨h, _⟩ | ⟨_, _, h, _⟩
      · rw [e] at h; exact xcl2 y hm.1 h
      · rw [e] at h; exact hm.2.2 h
    · rintro ⟨_, hc⟩ ⟨_, hn⟩; exact hn hc
    · rintro ⟨_, hc⟩ ⟨_, ho, _⟩; have := hc.1; omega
    · rintro ⟨hm, hn⟩ ⟨h1, ⟨hm', hk'⟩, hc'⟩
      rcases ncp _ hm hn with ⟨_, h2, h3, h4, h5, _⟩ | ⟨h1', _⟩
      · have e2 : y + 1 - 2 = y - 1 := by omega
        rw [e2] at h3
        obtain ⟨v1, _⟩ := (hcel (y - 1) hi hm'.1).1 hk'
        exact hm.2.2 (v1 (y + 1) hm.1 h3).2
      · have := (hX40 (y - 1) hm'.1).2; omega
    · rintro ⟨hm, hn⟩ ⟨⟨hm', _⟩, _⟩
      rcases ncp _ hm hn with ⟨_, h2, _⟩ | ⟨h1, _⟩
      · have e1 : y + 1 - 1 = y := by omega
        rw [e1] at h2; exact xcl2 y hm'.1 h2
      · have := (hX40 y hm'.1).2; omega
    · rintro ⟨hm, hn⟩ ⟨hx, _⟩
      rcases ncp _ hm hn with ⟨_, h2, _⟩ | ⟨h1, _⟩
      · have e1 : y + 1 - 1 = y := by omega
        rw [e1] at h2; exact xcl2 y hx h2
      · have := (hX40 y hx).2; omega
    · rintro ⟨h1, ⟨hm, hk⟩, hc⟩ ⟨⟨hm', _⟩, hn'⟩
      have e : y - 1 + 1 = y := by omega
      rcases key (y - 1) hm.1 hc hk with ⟨h, _⟩ | ⟨_, h, _, _⟩
      · rw [e] at h; exact xcl2 y hm'.1 h
      · rw [e] at h
        rcases ncp _ hm' hn' with ⟨_, _, _, _, _, h2⟩ | ⟨_, _, _, h2⟩ <;> omega
    · rintro ⟨h1, ⟨hm, hk⟩, hc⟩ ⟨hx, _, hk'⟩
      have e : y - 1 + 1 = y := by omega
      rcases key (y - 1) hm.1 hc hk with ⟨h, _⟩ | ⟨_, _, _, h⟩
      · rw [e] at h; exact xcl2 y hx h
      · rw [e] at h; exact hk' h
    · rintro ⟨⟨_, hk⟩, _⟩ ⟨_, _, hk'⟩; exact hk' hk
  have n0 : ¬ OM 0 := fun h => by have := (hX40 0 h.1).2; omega
  -- the sums
  have sB : sumN (fun y => ind (OM y ∧ ¬ CP y)) 40 ≤ sumN (fun y => ind (OM (y + 1) ∧ ¬ CP (y + 1))) 40 := by
    have h1 := sumN_shift (f := fun y => ind (OM y ∧ ¬ CP y)) (n := 40)
    have h2 : sumN (fun y => ind (OM y ∧ ¬ CP y)) (40 + 1) = sumN (fun y => ind (OM y ∧ ¬ CP y)) 40 + ind (OM 40 ∧ ¬ CP 40) := rfl
    have h3 : ind (OM 0 ∧ ¬ CP 0) = 0 := ind_f (fun h => n0 h.1)
    have h1' : sumN (fun y => ind (OM (y + 1) ∧ ¬ CP (y + 1))) 40 + ind (OM 0 ∧ ¬ CP 0) = sumN (fun y => ind (OM y ∧ ¬ CP y)) (40 + 1) := h1
    omega
  have sC : sumN (fun y => ind ((OM y ∧ KS y) ∧ CP y)) 40 ≤ sumN (fun y => ind (1 ≤ y ∧ (OM (y - 1) ∧ KS (y - 1)) ∧ CP (y - 1))) 40 := by
    have h1 := sumN_shift (f := fun y => ind (1 ≤ y ∧ (OM (y - 1) ∧ KS (y - 1)) ∧ CP (y - 1))) (n := 39)
    have h2 : sumN (fun y => ind ((OM y ∧ KS y) ∧ CP y)) (39 + 1) = sumN (fun y => ind ((OM y ∧ KS y) ∧ CP y)) 39 + ind ((OM 39 ∧ KS 39) ∧ CP 39) := rfl
    have h3 : ind ((OM 39 ∧ KS 39) ∧ CP 39) = 0 := by
      refine ind_f ?_
      rintro ⟨⟨hm, hk⟩, hc⟩
      rcases key 39 hm.1 hc hk with ⟨h, _⟩ | ⟨h, _⟩
      · have := hb40 _ h; omega
      · have := (hX40 _ h).1; omega
    have h4 : sumN (fun y => ind (1 ≤ y + 1 ∧ (OM (y + 1 - 1) ∧ KS (y + 1 - 1)) ∧ CP (y + 1 - 1))) 39 = sumN (fun y => ind ((OM y ∧ KS y) ∧ CP y)) 39 := by
      refine sumN_congr fun y _ => ind_c ?_
      have e : y + 1 - 1 = y := by omega
      rw [e]; exact ⟨fun h => h.2, fun h => ⟨by omega, h⟩⟩
    have h1' : sumN (fun y => ind (1 ≤ y + 1 ∧ (OM (y + 1 - 1) ∧ KS (y + 1 - 1)) ∧ CP (y + 1 - 1))) 39 + ind (1 ≤ 0 ∧ (OM (0 - 1) ∧ KS (0 - 1)) ∧ CP (0 - 1)) = sumN (fun y => ind (1 ≤ y ∧ (OM (y - 1) ∧ KS (y - 1)) ∧ CP (y - 1))) (39 + 1) := h1
    have h2' : sumN (fun y => ind ((OM y ∧ KS y) ∧ CP y)) 40 = sumN (fun y => ind ((OM y ∧ KS y) ∧ CP y)) (39 + 1) := rfl
    have h5 : sumN (fun y => ind (1 ≤ y ∧ (OM (y - 1) ∧ KS (y - 1)) ∧ CP (y - 1))) 40 = sumN (fun y => ind (1 ≤ y ∧ (OM (y - 1) ∧ KS (y - 1)) ∧ CP (y - 1))) (39 + 1) := rfl
    omega
  have lhs : sumN (fun p => 2 * c_om S s (40 * i + p) + c_nm S s (40 * i + p)) 40 = sumN (fun y => ind (OM y ∧ CP y)) 40 + sumN (fun y => ind (OM y ∧ ¬ CP y)) 40 + sumN (fun y => ind ((OM y ∧ KS y) ∧ CP y)) 40 + sumN (fun y => ind ((OM y ∧ KS y) ∧ ¬ CP y)) 40 + sumN (fun y => ind (X y ∧ s_op S (dl s i) y = 1 ∧ ¬ KS y)) 40 + sumN (fun p => c_st S s (40 * i + p)) 40 := by
    rw [← sumN_add, ← sumN_add, ← sumN_add, ← sumN_add, ← sumN_add]
    refine sumN_congr fun y hy => ?_
    rw [eom y hy, enm y hy, est y hy]
    have e1 := ind_split (p := OM y) (q := CP y)
    have e2 := ind_split (p := OM y) (q := KS y)
    have e3 := ind_split (p := OM y ∧ KS y) (q := CP y)
    omega
  have sO : sumN (fun y => ind (OM y ∧ CP y)) 40 + sumN (fun y => ind (OM (y + 1) ∧ ¬ CP (y + 1))) 40 + sumN (fun y => ind (1 ≤ y ∧ (OM (y - 1) ∧ KS (y - 1)) ∧ CP (y - 1))) 40 + sumN (fun y => ind ((OM y ∧ KS y) ∧ ¬ CP y)) 40 + sumN (fun y => ind (X y ∧ s_op S (dl s i) y = 1 ∧ ¬ KS y)) 40 ≤ sumN (fun y => ind (OC y)) 40 := by
    rw [← sumN_add, ← sumN_add, ← sumN_add, ← sumN_add]
    exact sumN_le fun y _ => point y
  have sOC : sumN (fun y => ind (OC y)) 40 ≤ 37 + 2 * ind (s_pc S (dl s i) = 0) := by
    by_cases hp : s_pc S (dl s i) = 0
    · rw [ind_t hp]
      by_cases ho : s_op S (dl s i) (s_pc S (dl s i) + 1) < 5
      · have hn := cap2 ho
        have := sumN_ind_le (p := OC) (a := 0) (b := 2) (by
          intro y hy
          rcases hy with h | h <;> omega) 40
        omega
      · have := sumN_ind_le (p := OC) (a := 1) (b := 40) (by
          intro y hy
          rcases hy with h | h <;> omega) 40
        omega
    · rw [ind_f hp]
      by_cases ho : s_op S (dl s i) (s_pc S (dl s i) + 1) < 5
      · have hn := cap2 ho
        have := sumN_ind_le (p := OC) (a := s_pc S (dl s i) + 1) (b := s_pc S (dl s i) + 2) (by
          intro y hy
          rcases hy with h | h <;> omega) 40
        omega
      · have := sumN_ind_le (p := OC) (a := s_pc S (dl s i) + 2) (b := 40) (by
          intro y hy
          rcases hy with ⟨h1, h2, h3⟩ | h
          · refine ⟨?_, by omega⟩
            by_cases e : y = s_pc S (dl s i) + 1
            · exact absurd ⟨e, by omega, by omega⟩ h3
            · omega
          · omega) 40
        omega
  omega
-- the room at every step
theorem bRoom {E : Nat → Option zT} {dfs : Nat → Option Nat} {ST : Nat → Nat → Int32} {F l0 am wn wr cr ps : Nat} {S : zG} {s : zD} (st : bSta E dfs ST F S) (I : bInv S dfs ST l0 am s) (cap : ∀ l, l < 26 → dfs l ≠ none → bCap S l) (hwn : wn ≤ 61) (hwr : wr ≤ 60) (hps : ps ≤ 12) (cnt : bCnt S s wn wr cr ps 0 0) :
    dnp s < 995 ∧ dnc s + 5 ≤ 2600 ∧ dnb s < 945 := by
  have hle := b_le I
  obtain ⟨c1, c2, c3, c4, c5⟩ := cnt
  have capi : ∀ i, i < de s → bCap S (dl s i) := fun i hi => cap _ (I.2.2.1 i hi).1 (I.2.2.1 i hi).2.2
  have hno : c_no s ≤ 26 := by
    unfold c_no
    have := sumN_le (f := fun l => ind ((dm s).2 32 l ≠ hz_n (-1))) (g := fun _ => 1) (n := 26) (fun c _ => ind_le _)
    rw [sumN_const] at this; omega
  have hnb : dnb s ≤ 18 * de s := by
    have h1 : sumN (c_dd s) (40 * de s) ≤ sumN (fun _ => 18) (de s) := by
      refine sumN_block fun i hi => ?_
      refine Nat.le_trans (sumN_le (g := fun p => ind (s_cl S (dl s i) p = 2)) fun p hp => ?_) (capi i hi).1
      show c_dd s (40 * i + p) ≤ _
      unfold c_dd
      by_cases h : dd s (40 * i + p) = none
      · rw [ind_f (fun h' => h' h)]; omega
      · rw [ind_t h]
        cases hx : dd s (40 * i + p) with
        | none => exact absurd hx h
        | some t =>
          obtain ⟨_, _, i', p', e1, e2, e3⟩ := I.2.2.2.2.2.1 _ _ hx
          obtain ⟨T', DT'⟩ := bDefs_of st I i' e2
          have := DT'.2.2.2.2.2.2.2.2.2.2.2.2.1 p' e3; have := DT'.2.1
          have y1 : i' = i := by omega
          subst y1
          have y2 : p' = p := by omega
          subst y2
          rw [ind_t e3]; omega
    rw [sumN_const] at h1; omega
  have hnp : 2 * dnp s ≤ 1989 := by
    have h1 : sumN (fun c => 2 * c_om S s c + c_nm S s c) (40 * de s) ≤ sumN (c_st S s) (40 * de s) + (37 * de s + 2 * c_pe S s) := by
      have h2 : ∀ e, e ≤ de s → sumN (fun c => 2 * c_om S s c + c_nm S s c) (40 * e) ≤ sumN (c_st S s) (40 * e) + (37 * e + 2 * sumN (fun i => ind (s_pc S (dl s i) = 0)) e) := by
        intro e
        induction e with
        | zero => intro _; exact Nat.le_refl _
        | succ e ih =>
          intro he
          have ih' := ih (by omega)
          have hb := bEntry st I (i := e) (by omega) (capi e (by omega))
          have e1 : 40 * (e + 1) = 40 * e + 40 := by omega
          rw [e1, sumN_split, sumN_split]
          show _ ≤ _ + (37 * (e + 1) + 2 * (sumN (fun i => ind (s_pc S (dl s i) = 0)) e + ind (s_pc S (dl s e) = 0)))
          omega
      exact h2 (de s) (Nat.le_refl _)
    rw [sumN_add] at h1
    have h3 : sumN (fun c => 2 * c_om S s c) (40 * de s) = 2 * sumN (c_om S s) (40 * de s) := by
      have : ∀ n, sumN (fun c => 2 * c_om S s c) n = 2 * sumN (c_om S s) n := by
        intro n
        induction n with
        | zero => rfl
        | succ n ih =>
          show sumN (fun c => 2 * c_om S s c) n + 2 * c_om S s n = 2 * (sumN (c_om S s) n + c_om S s n)
          omega
      exact this _
    rw [h3, ← c1] at h1
    have h4 : sumN (fun c => c_nm S s c) (40 * de s) = sumN (c_nm S s) (40 * de s) := rfl
    omega
  omega

-- the frames
noncomputable def w_o (S : zG) (s : zD) (x : Nat) : Nat := ind (∃ i p, x = 40 * i + p ∧ i < de s ∧ s_cl S (dl s i) p = 1 ∧ bOwn S (dl s i) p ∧ dg s x ≠ none)
noncomputable def w_w (S : zG) (s : zD) (x : Nat) : Nat := ind (∃ i p, x = 40 * i + p ∧ i < de s ∧ s_cl S (dl s i) p = 1 ∧ 6 ≤ s_op S (dl s i) p ∧ s_op S (dl s i) p ≤ 9)
theorem bKF_w {S : zG} {s : zD} {c f1 f2 : Nat} (H : bKF S s c f1 f2) : f2 ≤ f1 + w_o S s c := by
  rcases H with ⟨i, p, q, h1, h2, h3, h4, h5, _, h7⟩ | h | ⟨h1, _⟩
  · unfold w_o
    rw [ind_t ⟨i, p, h1, h2, h3, h4, by rw [h5]; simp⟩]; omega
  · omega
  · omega
theorem bWt_w {S : zG} {l0 : Nat} {s : zD} {c d f1 f2 : Nat} (H : bWt S l0 s c d f1 f2) : f2 ≤ f1 + w_w S s c := by
  rcases H with ⟨h1, h2, h3, h4⟩ | ⟨i, p, h1, h2, h3, H⟩
  · omega
  · have key : 6 ≤ s_op S (dl s i) p ∧ s_op S (dl s i) p ≤ 9 → w_w S s c = 1 := fun h => ind_t ⟨i, p, h1, h2, h3, h⟩
    rcases H with ⟨_, _, _, h⟩ | ⟨_, _, _, h⟩ | ⟨o, _, _, u, _, _, _, h⟩ | ⟨o, h⟩ | ⟨o, h⟩ | ⟨o, h⟩ | ⟨_, _, _, h⟩
    · omega
    · omega
    · rw [key (by omega)]; rcases h with h | h | h <;> omega
    · rw [key (by omega)]; rcases h with h | h <;> omega
    · rw [key (by omega)]; rcases h with h | h <;> omega
    · rw [key (by omega)]; rcases h with h | h | h <;> omega
    · omega
theorem bFr_w {S : zG} {l0 f0 : Nat} {s : zD} : ∀ {r : List Nat} {d f : Nat}, bFr S l0 f0 s r d f → f ≤ f0 + lsum (w_o S s) r + lsum (w_w S s) r
  | [], _, _, h => by have h' : _ = f0 := h; show _ ≤ f0 + 0 + 0; omega
  | c :: r, d, f, h => by
    obtain ⟨g1, g2, h1, h2, h3⟩ := h
    have a1 := bFr_w h1
    have a2 := bKF_w h2
    have a3 := bWt_w h3
    show f ≤ f0 + (w_o S s c + lsum (w_o S s) r) + (w_w S s c + lsum (w_w S s) r)
    omega
theorem bFrames {E : Nat → Option zT} {dfs : Nat → Option Nat} {ST : Nat → Nat → Int32} {F l0 am f0 : Nat} {S : zG} {s : zD} {c f1 f2 : Nat} {r : List Nat} (st : bSta E dfs ST F S) (I : bInv S dfs ST l0 am s) (K : bStk S s (c :: r)) (fr : bFr S l0 f0 s r c f1) (kf : bKF S s c f1 f2) : f2 ≤ f0 + 2001 := by
  have a1 := bFr_w fr
  have a2 := bKF_w kf
  have hlt : ∀ x, x ∈ c :: r → x < 2001 := by
    intro x hx
    rcases (K.2.2.2.1 _ hx).2 with h | ⟨i, p, h1, h2, h3⟩
    · omega
    · have := (zsg st I h2 h3).2.2.2; omega
  obtain ⟨n1, n2⟩ := List.nodup_cons.mp K.2.2.1
  have b1 := lsum_le (g := w_o S s) K.2.2.1 hlt
  have b2 := lsum_le (g := w_w S s) n2 (fun x hx => hlt x (List.mem_cons_of_mem _ hx))
  have b1' : lsum (w_o S s) (c :: r) = w_o S s c + lsum (w_o S s) r := rfl
  -- a place and the one before it
  have pt : ∀ x, w_o S s (x + 1) + w_w S s x ≤ 1 := by
    intro x
    by_cases h : ∃ i p, x = 40 * i + p ∧ i < de s ∧ s_cl S (dl s i) p = 1 ∧ 6 ≤ s_op S (dl s i) p ∧ s_op S (dl s i) p ≤ 9
    · have hw : w_w S s x = 1 := ind_t h
      have ho : w_o S s (x + 1) = 0 := by
        refine ind_f ?_
        rintro ⟨i', p', e1, e2, e3, e4, e5⟩
        obtain ⟨i, p, f1, f2, f3, f4, f5⟩ := h
        obtain ⟨sh, hp, _, _⟩ := zsg st I f2 f3
        have hp' := (zsg st I e2 e3).2.1
        have k0 : bKid ST F S (dl s i) p 0 (p + 1) 0 := by
          have : s_op S (dl s i) p = 6 ∨ s_op S (dl s i) p = 7 ∨ s_op S (dl s i) p = 8 ∨ s_op S (dl s i) p = 9 := by omega
          rcases this with o | o | o | o
          · exact (bSh6 sh o).2.1
          · exact (bSh7 sh o).2.2.1
          · exact (bSh8 sh o).2.1
          · exact (bSh9 sh o).2.1
        have hk := (zsg st I f2 k0.1).2.1
        have y1 : i' = i := by omega
        subst y1
        have y2 : p' = p + 1 := by omega
        subst y2
        have := k0.2.2.1
        rcases e4 with h | h | h <;> omega
      omega
    · have hw : w_w S s x = 0 := ind_f h
      have := ind_le (∃ i p, x + 1 = 40 * i + p ∧ i < de s ∧ s_cl S (dl s i) p = 1 ∧ bOwn S (dl s i) p ∧ dg s (x + 1) ≠ none)
      have ho : w_o S s (x + 1) ≤ 1 := this
      omega
  have o0 : w_o S s 0 = 0 := by
    refine ind_f ?_
    rintro ⟨i, p, e1, e2, e3, _⟩
    obtain ⟨T, D⟩ := bDefs_of st I i e2
    have := (D.2.2.2.2.2.2.2.2.2.2.2.2.2 p e3).2.1
    omega
  have wl : w_w S s 2000 = 0 := by
    refine ind_f ?_
    rintro ⟨i, p, e1, e2, e3, _⟩
    have := (zsg st I e2 e3).2.2.2; omega
  have hsum : sumN (w_o S s) 2001 + sumN (w_w S s) 2001 ≤ 2000 := by
    have h1 := sumN_shift (f := w_o S s) (n := 2000)
    have h2 : sumN (w_w S s) 2001 = sumN (w_w S s) 2000 + w_w S s 2000 := rfl
    have h3 : sumN (fun y => w_o S s (y + 1) + w_w S s y) 2000 ≤ sumN (fun _ => 1) 2000 := sumN_le fun y _ => pt y
    rw [sumN_add, sumN_const] at h3
    have h4 : sumN (w_o S s) 2001 = sumN (w_o S s) (2000 + 1) := rfl
    have h5 : sumN (fun y => w_w S s y) 2000 = sumN (w_w S s) 2000 := rfl
    omega
  omega

theorem zgd_s {α : Type} {p : Prop} {x : Option α} {a : α} (h : zgd p x = some a) : p ∧ x = some a := by
  unfold zgd at h
  by_cases hp : p
  · simp [hp] at h; exact ⟨hp, h⟩
  · simp [hp] at h
theorem bnd_s {α β : Type} {x : Option α} {f : α → Option β} {b : β} (h : x.bind f = some b) : ∃ a, x = some a ∧ f a = some b := by
  cases x with
  | none => exact absurd h (by simp)
  | some a => exact ⟨a, rfl, h⟩
-- how a look goes on
def pgP (κ κ' : zK) : Prop := κ'.1 4 = κ.1 4 ∧ κ'.1 1 = κ.1 1 + hz_n 1 ∧ ∃ y : Nat, y < 2001 ∧ (κ.2.1 6 y).toInt = 0 ∧ (∀ c, κ'.2.1 6 c = if c = y then hz_n 1 else κ.2.1 6 c) ∧ κ'.2.1 11 (κ.1 1).toInt.toNat = hz_n y
def pgK (κ κ' : zK) (x : Int32) : Prop := κ'.1 4 = κ.1 4 ∧ κ'.1 1 = κ.1 1 - hz_n 1 ∧ ∃ k : Int32, k.toInt ≠ 0 ∧ ∀ c, κ'.2.1 6 c = if c = x.toInt.toNat then k else κ.2.1 6 c
def pgE (κ κ' : zK) : Prop := κ'.1 4 = κ.1 4 + hz_n 1 ∧ κ'.1 1 = κ.1 1 ∧ ∃ n, n ≤ 40 ∧ ∀ c, (c < (κ.1 4 * hz_n 40).toInt.toNat ∨ (κ.1 4 * hz_n 40).toInt.toNat + n ≤ c) → κ'.2.1 6 c = κ.2.1 6 c
def pg (κ κ' : zK) (x : Int32) : Prop := κ'.1 5 ≠ hz_n 0 ∨ pgP κ κ' ∨ pgK κ κ' x ∨ pgE κ κ' ∨ (∃ κ1, pgE κ κ1 ∧ (pgP κ1 κ' ∨ pgK κ1 κ' x))
-- the same as far as a look's course is seen
def smk (κ κ1 : zK) : Prop := κ1.1 = κ.1 ∧ κ1.2.1 6 = κ.2.1 6 ∧ κ1.2.1 11 = κ.2.1 11
theorem smk_P {κ κ1 κ' : zK} (h : smk κ κ1) (H : pgP κ1 κ') : pgP κ κ' := by
  obtain ⟨h1, h2, h3⟩ := h
  unfold pgP at *
  rw [h1, h2] at H; exact H
theorem smk_K {κ κ1 κ' : zK} {x : Int32} (h : smk κ κ1) (H : pgK κ1 κ' x) : pgK κ κ' x := by
  obtain ⟨h1, h2, h3⟩ := h
  unfold pgK at *
  rw [h1, h2] at H; exact H
theorem smk_E {κ κ1 κ' : zK} (h : smk κ κ1) (H : pgE κ1 κ') : pgE κ κ' := by
  obtain ⟨h1, h2, h3⟩ := h
  unfold pgE at *
  rw [h1, h2] at H; exact H
theorem smk_kA {κ : zK} {a j : Nat} {x : Int32} (h6 : a ≠ 6) (h11 : a ≠ 11) : smk κ (kA κ a j x) := ⟨rfl, kA2n _ _ _ _ _ (fun h => h6 h.symm), kA2n _ _ _ _ _ (fun h => h11 h.symm)⟩
theorem smk_trans {κ κ1 κ2 : zK} (h : smk κ κ1) (h' : smk κ1 κ2) : smk κ κ2 := ⟨by rw [h'.1, h.1], by rw [h'.2.1, h.2.1], by rw [h'.2.2, h.2.2]⟩
theorem pg_req {κ : zK} {y : Int32} {q : Int32 × zK} (h : g_request κ y = some q) : (q.1.toInt = 0 ∧ (q.2.1 5 ≠ hz_n 0 ∨ pgP κ q.2)) ∨ (q.1.toInt ≠ 0 ∧ q.2 = κ ∧ (κ.2.1 6 y.toInt.toNat).toInt ≠ 0) := by
  unfold g_request at h
  obtain ⟨h1, h⟩ := zgd_s h
  split at h
  · have := Option.some.inj h
    subst this
    exact Or.inl ⟨zn_ti (by omega), Or.inl (by show hz_n (-4) ≠ hz_n 0; decide)⟩
  · split at h
    · rename_i h0
      obtain ⟨h2, h⟩ := zgd_s h
      have := Option.some.inj h
      subst this
      refine Or.inl ⟨zn_ti (by omega), Or.inr ⟨rfl, rfl, y.toInt.toNat, by omega, h0, fun c => ?_, ?_⟩⟩
      · show (kS (kA (kA (kA (kA κ 6 _ _) 9 _ _) 10 _ _) 11 _ _) 1 _).2.1 6 c = _
        simp only [kS2, kA2]; simp
      · show (kS (kA (kA (kA (kA κ 6 _ _) 9 _ _) 10 _ _) 11 _ _) 1 _).2.1 11 _ = _
        simp only [kS2, kA2]
        have e : hz_n ((y.toInt.toNat : Nat) : Int) = y := by
          have : ((y.toInt.toNat : Nat) : Int) = y.toInt := by omega
          rw [this, zn_of]
        rw [e]; simp
    · rename_i h0 h0'
      have := Option.some.inj h
      subst this
      exact Or.inr ⟨by show (hz_n 1).toInt ≠ 0; rw [zn_ti (by omega)]; omega, rfl, h0'⟩
theorem pg_keep {κ κ' : zK} {x k v : Int32} (hk : k.toInt ≠ 0) (h : g_keep κ x k v = some κ') : pgK κ κ' x := by
  unfold g_keep at h
  obtain ⟨h1, h⟩ := zgd_s h
  have := Option.some.inj h
  subst this
  refine ⟨rfl, rfl, k, hk, fun c => ?_⟩
  show (kS (kA (kA κ 6 _ _) 7 _ _) 1 _).2.1 6 c = _
  simp only [kS2, kA2]; simp
theorem pg_keepAs {κ κ' : zK} {x y : Int32} (h : g_keepAs κ x y = some κ') : κ'.1 5 ≠ hz_n 0 ∨ pgP κ κ' ∨ pgK κ κ' x := by
  unfold g_keepAs at h
  obtain ⟨q, h1, h2⟩ := bnd_s h
  rcases pg_req h1 with ⟨a1, a2⟩ | ⟨a1, a2, a3⟩
  · rw [if_pos a1] at h2
    have := Option.some.inj h2
    subst this
    rcases a2 with a2 | a2
    · exact Or.inl a2
    · exact Or.inr (Or.inl a2)
  · rw [if_neg a1] at h2
    obtain ⟨_, h2⟩ := zgd_s h2
    rw [a2] at h2
    exact Or.inr (Or.inr (pg_keep a3 h2))
theorem pg_reqN {κ : zK} {y : Int32} {q : Int32 × zK} (h : g_requestNumber κ y = some q) : (q.1.toInt = 0 ∧ (q.2.1 5 ≠ hz_n 0 ∨ pgP κ q.2)) ∨ (q.1.toInt ≠ 0 ∧ q.2 = κ) := by
  unfold g_requestNumber at h
  obtain ⟨r, h1, h2⟩ := bnd_s h
  rcases pg_req h1 with ⟨a1, a2⟩ | ⟨a1, a2, a3⟩
  · rw [if_pos a1] at h2
    have := Option.some.inj h2
    subst this
    exact Or.inl ⟨zn_ti (by omega), a2⟩
  · rw [if_neg a1] at h2
    obtain ⟨_, h2⟩ := zgd_s h2
    split at h2
    · have := Option.some.inj h2
      subst this
      exact Or.inr ⟨by show (hz_n 1).toInt ≠ 0; rw [zn_ti (by omega)]; omega, a2⟩
    · have := Option.some.inj h2
      subst this
      exact Or.inl ⟨zn_ti (by omega), Or.inl (by show hz_n (-3) ≠ hz_n 0; decide)⟩
theorem pg_en2 {T : zT} {d : Nat} {b : Int32} : ∀ (f : Nat) (κ : zK) (a k : Int32) {q : Int32 × zK}, g_en2 T d b f κ a k = some q → q.2.1 4 = κ.1 4 + hz_n 1 ∧ (∀ n, n ≠ 4 → q.2.1 n = κ.1 n) ∧ q.2.2.1 6 = κ.2.1 6 ∧ q.2.2.1 11 = κ.2.1 11
  | 0, _, _, _, _, h => absurd h (by simp [g_en2])
  | f + 1, κ, a, k, q, h => by
    have h3 : ∀ q, g_en3 κ T d b = some q → q.2.1 4 = κ.1 4 + hz_n 1 ∧ (∀ n, n ≠ 4 → q.2.1 n = κ.1 n) ∧ q.2.2.1 6 = κ.2.1 6 ∧ q.2.2.1 11 = κ.2.1 11 := by
      intro q hq
      unfold g_en3 at hq
      obtain ⟨_, hq⟩ := zgd_s hq
      have := Option.some.inj hq
      subst this
      exact ⟨rfl, fun n hn => by show (kS _ 4 _).1 n = _; rw [kS1, if_neg hn]; rfl, rfl, rfl⟩
    rw [g_en2] at h
    split at h
    · exact h3 q h
    · split at h
      · exact h3 q h
      · obtain ⟨_, h⟩ := zgd_s h
        obtain ⟨_, h⟩ := zgd_s h
        obtain ⟨a1, a2, a3, a4⟩ := pg_en2 f _ _ _ h
        refine ⟨a1, a2, ?_, ?_⟩
        · rw [a3, kA2n _ _ _ _ _ (by decide)]
        · rw [a4, kA2n _ _ _ _ _ (by decide)]
theorem pg_en1 {T : zT} {d : Nat} {y b : Int32} (hT : T.1 ≤ 40) (hb : 0 ≤ b.toInt ∧ b.toInt ≤ 2000) : ∀ (f : Nat) (κ : zK) (k : Nat) {q : Int32 × zK}, k ≤ 50 → g_en1 T d y b f κ (hz_n k) = some q → q.2.1 4 = κ.1 4 + hz_n 1 ∧ (∀ n, n ≠ 4 → q.2.1 n = κ.1 n) ∧ (∀ c, c < b.toInt.toNat ∨ b.toInt.toNat + T.1 ≤ c → q.2.2.1 6 c = κ.2.1 6 c) ∧ q.2.2.1 11 = κ.2.1 11
  | 0, _, _, _, _, h => absurd h (by simp [g_en1])
  | f + 1, κ, k, q, hk, h => by
    rw [g_en1] at h
    split at h
    · obtain ⟨a1, a2, a3, a4⟩ := pg_en2 _ _ _ _ h
      exact ⟨a1, a2, fun c _ => by rw [a3], a4⟩
    · rename_i hc
      have e1 : (hz_n (T.1 : Int)).toInt = T.1 := zt _ (by omega)
      rw [e1, zt k (by omega)] at hc
      obtain ⟨_, h⟩ := zgd_s h
      rw [zn1] at h
      obtain ⟨a1, a2, a3, a4⟩ := pg_en1 hT hb f _ (k + 1) (by omega) h
      refine ⟨a1, a2, fun c hcc => ?_, ?_⟩
      · rw [a3 c hcc, kA2, if_pos rfl, if_neg]
        intro e
        have e2 : (b + hz_n k).toInt = b.toInt + k := by
          rw [← zn_of b, zn_add, zn_ti (by omega), zn_ti (by omega)]
        rw [e2] at e
        omega
      · rw [a4, kA2n _ _ _ _ _ (by decide)]
theorem pg_enter {E : Nat → Option zT} {κ : zK} {x y : Int32} {q : Int32 × zK} (hE : ∀ l d T, l < 26 → κ.2.2 3 l = some d → E d = some T → T.1 ≤ 40) (hb : 0 ≤ (κ.1 4 * hz_n 40).toInt ∧ (κ.1 4 * hz_n 40).toInt ≤ 2000) (h : g_enter κ E x y = some q) : (q.2.1 5 ≠ hz_n 0 ∨ pgE κ q.2) ∧ (q.2.1 5 = hz_n 0 → q.2.1 5 = κ.1 5) := by
  unfold g_enter at h
  split at h
  · obtain ⟨hx26, h⟩ := zgd_s h
    split at h
    · exact absurd h (by simp)
    · rename_i d hd
      obtain ⟨T, e1, h⟩ := bnd_s h
      have z0 : hz_n 0 = hz_n ((0 : Nat) : Int) := rfl
      rw [z0] at h
      obtain ⟨a1, a2, a3, a4⟩ := pg_en1 (hE _ d T (by omega) hd e1) hb _ _ 0 (by omega) h
      exact ⟨Or.inr ⟨a1, a2 1 (by decide), T.1, hE _ d T (by omega) hd e1, a3⟩, fun _ => a2 5 (by decide)⟩
  · have := Option.some.inj h
    subst this
    refine ⟨Or.inl (by show hz_n (-2) ≠ hz_n 0; decide), fun h => ?_⟩
    have : hz_n (-2) = hz_n 0 := h
    exact absurd this (by decide)

theorem pg_of {κ κ' : zK} {x : Int32} (h : κ'.1 5 ≠ hz_n 0 ∨ pgP κ κ' ∨ pgK κ κ' x) : pg κ κ' x := by
  rcases h with h | h | h
  · exact Or.inl h
  · exact Or.inr (Or.inl h)
  · exact Or.inr (Or.inr (Or.inl h))
theorem pg_smk {κ κ1 κ' : zK} {x : Int32} (h : smk κ κ1) (H : pg κ1 κ' x) : pg κ κ' x := by
  rcases H with H | H | H | H | ⟨κ2, H, H'⟩
  · exact Or.inl H
  · exact Or.inr (Or.inl (smk_P h H))
  · exact Or.inr (Or.inr (Or.inl (smk_K h H)))
  · exact Or.inr (Or.inr (Or.inr (Or.inl (smk_E h H))))
  · exact Or.inr (Or.inr (Or.inr (Or.inr ⟨κ2, smk_E h H, H'⟩)))
theorem smk_E2 {κ κ1 κ' : zK} (h : smk κ1 κ') (H : pgE κ κ1) : pgE κ κ' := by
  obtain ⟨h1, h2, h3⟩ := h
  unfold pgE at *
  rw [h1, h2]; exact H
theorem pg_ll2 {κ κ' : zK} {x y : Int32} (h : g_ll2 κ x y = some κ') (h0 : κ.1 5 = hz_n 0 ∨ κ.1 5 ≠ hz_n 0) : κ'.1 5 ≠ hz_n 0 ∨ pgP κ κ' ∨ pgK κ κ' x := by
  unfold g_ll2 at h
  split at h
  · obtain ⟨_, h⟩ := zgd_s h
    exact pg_keepAs h
  · rename_i hne
    have := Option.some.inj h
    subst this
    refine Or.inl fun e => hne ?_
    rw [e]; exact zn_ti (by omega)
theorem pg_letter {E : Nat → Option zT} {κ κ' : zK} {x y : Int32} (hE : ∀ l d T, l < 26 → κ.2.2 3 l = some d → E d = some T → T.1 ≤ 40) (hb : 0 ≤ (κ.1 4 * hz_n 40).toInt ∧ (κ.1 4 * hz_n 40).toInt ≤ 2000) (h : g_lookAtLetter κ E x y = some κ') : pg κ κ' x := by
  unfold g_lookAtLetter at h
  obtain ⟨c, _, h⟩ := bnd_s h
  split at h
  · have := Option.some.inj h
    subst this
    exact Or.inl (by show hz_n (-3) ≠ hz_n 0; decide)
  · split at h
    · exact Or.inr (Or.inr (Or.inl (pg_keep (by rw [zn_ti (by omega)]; omega) h)))
    · obtain ⟨_, h⟩ := zgd_s h
      split at h
      · obtain ⟨q, e1, h⟩ := bnd_s h
        obtain ⟨_, h⟩ := zgd_s h
        have sm : smk q.2 (kA q.2 5 y.toInt.toNat q.1) := smk_kA (by decide) (by decide)
        have hl := pg_ll2 h (Classical.em _)
        rcases (pg_enter hE hb e1).1 with h1 | h1
        · -- it has ended
          refine Or.inl ?_
          unfold g_ll2 at h
          have hne : ¬ ((kA q.2 5 y.toInt.toNat q.1).1 5).toInt = 0 := fun e => h1 ((zkt (by omega)).mp e)
          rw [if_neg hne] at h
          have := Option.some.inj h
          subst this
          exact h1
        · rcases hl with hl | hl | hl
          · exact Or.inl hl
          · exact Or.inr (Or.inr (Or.inr (Or.inr ⟨q.2, h1, Or.inl (smk_P sm hl)⟩)))
          · exact Or.inr (Or.inr (Or.inr (Or.inr ⟨q.2, h1, Or.inr (smk_K sm hl)⟩)))
      · exact pg_of (pg_ll2 h (Classical.em _))
theorem pg_ta1 {E : Nat → Option zT} {x b : Int32} : ∀ (f : Nat) (κ : zK) (m a g : Int32) {κ' : zK}, (∀ l d T, l < 26 → κ.2.2 3 l = some d → E d = some T → T.1 ≤ 40) → (0 ≤ (κ.1 4 * hz_n 40).toInt ∧ (κ.1 4 * hz_n 40).toInt ≤ 2000) → g_ta1 E x b f κ m a g = some κ' → pg κ κ' x
  | 0, _, _, _, _, _, _, _, h => absurd h (by simp [g_ta1])
  | f + 1, κ, m, a, g, κ', hE, hb, h => by
    have h2 : ∀ κ', g_ta2 E κ x b m a = some κ' → pg κ κ' x := by
      intro κ' h
      unfold g_ta2 at h
      split at h
      · exact Or.inr (Or.inr (Or.inl (pg_keep (by rw [zn_ti (by omega)]; omega) h)))
      · obtain ⟨q, e1, h⟩ := bnd_s h
        obtain ⟨_, h⟩ := zgd_s h
        have := Option.some.inj h
        subst this
        rcases (pg_enter hE hb e1).1 with h1 | h1
        · exact Or.inl h1
        · exact Or.inr (Or.inr (Or.inr (Or.inl (smk_E2 (smk_kA (by decide) (by decide)) h1))))
    rw [g_ta1] at h
    split at h
    · exact h2 _ h
    · split at h
      · exact h2 _ h
      · obtain ⟨_, h⟩ := zgd_s h
        obtain ⟨_, h⟩ := zgd_s h
        obtain ⟨g', _, h⟩ := bnd_s h
        exact pg_smk (smk_trans (smk_kA (by decide) (by decide)) (smk_kA (by decide) (by decide))) (pg_ta1 f (kA (kA κ 8 g.toInt.toNat a) 10 x.toInt.toNat g) _ _ _ hE hb h)
theorem pg_look {E : Nat → Option zT} {κ κ' : zK} {x : Int32} (hE : ∀ l d T, l < 26 → κ.2.2 3 l = some d → E d = some T → T.1 ≤ 40) (hb : 0 ≤ (κ.1 4 * hz_n 40).toInt ∧ (κ.1 4 * hz_n 40).toInt ≤ 2000) (h : g_lookAt κ E x = some κ') : pg κ κ' x := by
  unfold g_lookAt at h
  split at h
  · exact pg_letter hE hb h
  · obtain ⟨_, h⟩ := zgd_s h
    split at h
    · exact absurd h (by simp)
    · obtain ⟨T, _, h⟩ := bnd_s h
      obtain ⟨_, h⟩ := zgd_s h
      unfold g_la at h
      split at h
      · exact Or.inr (Or.inr (Or.inl (pg_keep (by rw [zn_ti (by omega)]; omega) h)))
      split at h
      · obtain ⟨_, h⟩ := zgd_s h
        obtain ⟨_, h⟩ := zgd_s h
        exact pg_of (pg_keepAs h)
      split at h
      · exact pg_letter hE hb h
      split at h
      · exact Or.inr (Or.inr (Or.inl (pg_keep (by rw [zn_ti (by omega)]; omega) h)))
      split at h
      · exact Or.inr (Or.inr (Or.inl (pg_keep (by rw [zn_ti (by omega)]; omega) h)))
      split at h
      · -- an application
        unfold g_lookAtApplication at h
        obtain ⟨_, h⟩ := zgd_s h
        obtain ⟨q, e1, h⟩ := bnd_s h
        rcases pg_req e1 with ⟨a1, a2⟩ | ⟨a1, a2, a3⟩
        · rw [if_pos a1] at h
          have := Option.some.inj h
          subst this
          rcases a2 with a2 | a2
          · exact Or.inl a2
          · exact Or.inr (Or.inl a2)
        · rw [if_neg a1, a2] at h
          obtain ⟨_, h⟩ := zgd_s h
          obtain ⟨g, _, h⟩ := bnd_s h
          obtain ⟨_, h⟩ := zgd_s h
          split at h
          · exact Or.inr (Or.inr (Or.inl (pg_keep a3 h)))
          · split at h
            · unfold g_takeArguments at h
              obtain ⟨b, _, h⟩ := bnd_s h
              obtain ⟨c, _, h⟩ := bnd_s h
              obtain ⟨q', _, h⟩ := bnd_s h
              obtain ⟨_, h⟩ := zgd_s h
              obtain ⟨g', _, h⟩ := bnd_s h
              exact pg_ta1 _ _ _ _ _ hE hb h
            · have := Option.some.inj h
              subst this
              exact Or.inl (by show hz_n (-3) ≠ hz_n 0; decide)
      split at h
      · -- a choice
        unfold g_lookAtChoice at h
        obtain ⟨q, e1, h⟩ := bnd_s h
        rcases pg_reqN e1 with ⟨a1, a2⟩ | ⟨a1, a2⟩
        · rw [if_pos a1] at h
          have := Option.some.inj h
          subst this
          rcases a2 with a2 | a2
          · exact Or.inl a2
          · exact Or.inr (Or.inl a2)
        · rw [if_neg a1, a2] at h
          obtain ⟨b, _, h⟩ := bnd_s h
          obtain ⟨_, h⟩ := zgd_s h
          split at h
          · obtain ⟨d, _, h⟩ := bnd_s h
            exact pg_of (pg_keepAs h)
          · exact pg_of (pg_keepAs h)
      split at h
      · -- a split
        unfold g_lookAtSplit at h
        obtain ⟨q, e1, h⟩ := bnd_s h
        rcases pg_req e1 with ⟨a1, a2⟩ | ⟨a1, a2, a3⟩
        · rw [if_pos a1] at h
          have := Option.some.inj h
          subst this
          rcases a2 with a2 | a2
          · exact Or.inl a2
          · exact Or.inr (Or.inl a2)
        · rw [if_neg a1, a2] at h
          obtain ⟨b, _, h⟩ := bnd_s h
          obtain ⟨_, h⟩ := zgd_s h
          split at h
          · exact pg_of (pg_keepAs h)
          · split at h
            · obtain ⟨d, _, h⟩ := bnd_s h
              unfold g_sp2 at h
              obtain ⟨_, h⟩ := zgd_s h
              obtain ⟨a, _, h⟩ := bnd_s h
              obtain ⟨_, h⟩ := zgd_s h
              obtain ⟨b', _, h⟩ := bnd_s h
              obtain ⟨_, h⟩ := zgd_s h
              exact pg_smk (smk_trans (smk_kA (by decide) (by decide)) (smk_kA (by decide) (by decide))) (pg_of (pg_keepAs h))
            · have := Option.some.inj h
              subst this
              exact Or.inl (by show hz_n (-3) ≠ hz_n 0; decide)
      split at h
      · obtain ⟨_, h⟩ := zgd_s h
        obtain ⟨g, _, h⟩ := bnd_s h
        exact pg_smk (smk_kA (by decide) (by decide)) (pg_of (pg_keepAs h))
      · -- arithmetic
        unfold g_lookAtArithmetic at h
        obtain ⟨q, e1, h⟩ := bnd_s h
        rcases pg_reqN e1 with ⟨a1, a2⟩ | ⟨a1, a2⟩
        · rw [if_pos a1] at h
          have := Option.some.inj h
          subst this
          rcases a2 with a2 | a2
          · exact Or.inl a2
          · exact Or.inr (Or.inl a2)
        · rw [if_neg a1, a2] at h
          obtain ⟨b, _, h⟩ := bnd_s h
          obtain ⟨t, e2, h⟩ := bnd_s h
          rcases pg_reqN e2 with ⟨b1, b2⟩ | ⟨b1, b2⟩
          · rw [if_pos b1] at h
            have := Option.some.inj h
            subst this
            rcases b2 with b2 | b2
            · exact Or.inl b2
            · exact Or.inr (Or.inl b2)
          · rw [if_neg b1, b2] at h
            obtain ⟨_, h⟩ := zgd_s h
            obtain ⟨_, h⟩ := zgd_s h
            obtain ⟨v, _, h⟩ := bnd_s h
            exact Or.inr (Or.inr (Or.inl (pg_keep (by rw [zn_ti (by omega)]; omega) h)))

noncomputable def cntk (κ : zK) (e : Nat) : Nat := sumN (fun c => ind (κ.2.1 6 c ≠ hz_n 0 ∧ (c < 40 * e ∨ c = 2000))) 2001
theorem cntk_le (κ : zK) (e : Nat) : cntk κ e ≤ 2001 := by
  unfold cntk
  have := sumN_le (f := fun c => ind (κ.2.1 6 c ≠ hz_n 0 ∧ (c < 40 * e ∨ c = 2000))) (g := fun _ => 1) (n := 2001) (fun c _ => ind_le _)
  rw [sumN_const] at this; omega
theorem zt0 {x : Int32} : x.toInt = 0 ↔ x = hz_n 0 := zkt (by omega)
theorem cnt_P {κ κ' : zK} {e y : Nat} (hy : y < 2001) (h0 : (κ.2.1 6 y).toInt = 0) (h : ∀ c, κ'.2.1 6 c = if c = y then hz_n 1 else κ.2.1 6 c) (hv : y < 40 * e ∨ y = 2000) : cntk κ' e = cntk κ e + 1 := by
  unfold cntk
  refine sumN_upd (a := y) hy ?_ ?_
  · show ind (κ'.2.1 6 y ≠ hz_n 0 ∧ _) = ind (κ.2.1 6 y ≠ hz_n 0 ∧ _) + 1
    rw [h y, if_pos rfl, ind_t ⟨by decide, hv⟩, ind_f (fun h' => h'.1 (zt0.mp h0))]
  · intro c _ hc
    show ind (κ'.2.1 6 c ≠ hz_n 0 ∧ _) = _
    rw [h c, if_neg hc]
theorem cnt_K {κ κ' : zK} {e x : Nat} {k : Int32} (h1 : κ.2.1 6 x ≠ hz_n 0) (hk : k.toInt ≠ 0) (h : ∀ c, κ'.2.1 6 c = if c = x then k else κ.2.1 6 c) : cntk κ' e = cntk κ e := by
  unfold cntk
  refine sumN_congr fun c _ => ind_c ?_
  rw [h c]
  by_cases e1 : c = x
  · rw [if_pos e1, e1]
    exact ⟨fun h => ⟨h1, h.2⟩, fun h => ⟨fun e => hk (zt0.mpr e), h.2⟩⟩
  · rw [if_neg e1]
theorem cnt_E {κ κ' : zK} {e n : Nat} (he : e < 50) (hn : n ≤ 40) (h : ∀ c, (c < 40 * e ∨ 40 * e + n ≤ c) → κ'.2.1 6 c = κ.2.1 6 c) : cntk κ e ≤ cntk κ' (e + 1) := by
  unfold cntk
  refine sumN_le fun c _ => ?_
  by_cases h1 : κ.2.1 6 c ≠ hz_n 0 ∧ (c < 40 * e ∨ c = 2000)
  · have h2 : κ'.2.1 6 c = κ.2.1 6 c := h c (by omega)
    rw [ind_t h1, ind_t ⟨by rw [h2]; exact h1.1, by omega⟩]; exact Nat.le_refl _
  · rw [ind_f h1]; omega
noncomputable def mm (s : zD) (sk : List Nat) : Nat := 2 * cntk (dk s) (de s) + de s + (3000 - sk.length)
theorem bSim_i {S : zG} {dfs : Nat → Option Nat} {ST : Nat → Nat → Int32} {l0 am f0 g wn wr : Nat} {kw : zK} {mw : zM} {s : zD} {μ : zM} {sk : List Nat} (H : bSim S dfs ST l0 am f0 g wn wr kw mw s μ sk) : bInv S dfs ST l0 am s ∧ bStk S s sk ∧ (dk s).1 5 = hz_n 0 := by
  cases sk with
  | nil => exact ⟨H.1, H.2.1, H.2.2.2.1⟩
  | cons c r => exact ⟨H.1, H.2.1, H.2.2.2.1⟩
theorem bProg {E : Nat → Option zT} {dfs : Nat → Option Nat} {ST : Nat → Nat → Int32} {F l0 am f0 g wn wr : Nat} {S : zG} {kw : zK} {mw : zM} {s s' : zD} {μ μ' : zM} {c : Nat} {r sk' : List Nat}
    (st : bSta E dfs ST F S) (H : bSim S dfs ST l0 am f0 g wn wr kw mw s μ (c :: r)) (H' : bSim S dfs ST l0 am f0 g wn wr kw mw s' μ' sk') (h : g_lookAt (dk s) E (hz_n c) = some (dk s')) : mm s (c :: r) < mm s' sk' := by
  obtain ⟨I, K, _⟩ := bSim_i H
  obtain ⟨I', K', h5'⟩ := bSim_i H'
  have hle := b_le I
  have hle' := b_le I'
  have hc1 := (K.2.2.2.1 c (List.mem_cons_self ..)).1
  have len : ∀ {s : zD} {sk : List Nat}, bInv S dfs ST l0 am s → bStk S s sk → sk.length ≤ 2001 := by
    intro s sk I K
    refine nodup_len K.2.2.1 fun x hx => ?_
    rcases (K.2.2.2.1 _ hx).2 with h | ⟨i, p, h1, h2, h3⟩
    · omega
    · have := (zsg st I h2 h3).2.2.2; omega
  have l1 := len I K
  have l2 := len I' K'
  have k1 := K.1
  have k1' := K'.1
  have k4 := I.2.1.1
  have k4' := I'.2.1.1
  have hc2 : c < 2001 := by
    rcases (K.2.2.2.1 c (List.mem_cons_self ..)).2 with h | ⟨i, p, h1, h2, h3⟩
    · omega
    · have := (zsg st I h2 h3).2.2.2; omega
  have e40 : (dk s).1 4 * hz_n 40 = hz_n ((40 * de s : Nat) : Int) := by rw [k4, zn_mul]; congr 1; omega
  have hE : ∀ l d T, l < 26 → (dk s).2.2 3 l = some d → E d = some T → T.1 ≤ 40 := by
    intro l d T hl hd hT
    rw [I.1.2] at hd
    rcases st l hl with ⟨h, _⟩ | ⟨d', T', e1, e2, _, D⟩
    · rw [h] at hd; exact absurd hd (by simp)
    · rw [hd] at e1
      rw [← Option.some.inj e1, hT] at e2
      rw [Option.some.inj e2, D.1]; exact D.2.1
  have hpg := pg_look hE (by rw [e40, zt _ (by omega)]; omega) h
  -- a push in κ1 (whose entries are e1, whose stack has n)
  have valid : ∀ (n y : Nat), sk'.length = n + 1 → y < 2001 → (dk s').2.1 11 n = hz_n y → y < 40 * de s' ∨ y = 2000 := by
    intro n y hn hy hk
    cases sk' with
    | nil => simp at hn
    | cons c' r' =>
      have hr : r'.length = n := by simpa using hn
      have := K'.2.1.1
      rw [hr, hk] at this
      have hc' : c' < 2001 := by
        rcases (K'.2.2.2.1 c' (List.mem_cons_self ..)).2 with h | ⟨i, p, h1, h2, h3⟩
        · omega
        · have := (zsg st I' h2 h3).2.2.2; omega
      have e := zn_inj (by omega) (by omega) this
      have : y = c' := by omega
      subst this
      rcases (K'.2.2.2.1 y (List.mem_cons_self ..)).2 with h | ⟨i, p, h1, h2, h3⟩
      · exact Or.inr h
      · have := (zsg st I' h2 h3).2.1; exact Or.inl (by omega)
  have pP : ∀ (κ1 : zK) (e1 n : Nat), κ1.1 4 = hz_n e1 → e1 ≤ 50 → κ1.1 1 = hz_n n → n ≤ 2001 → pgP κ1 (dk s') → de s' = e1 ∧ sk'.length = n + 1 ∧ cntk (dk s') e1 = cntk κ1 e1 + 1 := by
    intro κ1 e1 n h4 he h1 hn ⟨a1, a2, y, a3, a4, a5, a6⟩
    rw [k4', h4] at a1
    have x1 := zn_inj (by omega) (by omega) a1
    have x1' : de s' = e1 := by omega
    rw [k1', h1, zn1] at a2
    have x2 := zn_inj (by omega) (by omega) a2
    have x2' : sk'.length = n + 1 := by omega
    rw [h1, zt n (by omega), Int.toNat_natCast] at a6
    refine ⟨x1', x2', cnt_P a3 a4 a5 ?_⟩
    rw [← x1']; exact valid n y x2' a3 a6
  have tc : (hz_n (c : Int)).toInt.toNat = c := by rw [zt c (by omega), Int.toNat_natCast]
  have pK : ∀ (κ1 : zK) (e1 n : Nat), κ1.1 4 = hz_n e1 → e1 ≤ 50 → κ1.1 1 = hz_n (n + 1 : Nat) → n ≤ 2001 → κ1.2.1 6 c ≠ hz_n 0 → pgK κ1 (dk s') (hz_n c) → de s' = e1 ∧ sk'.length = n ∧ cntk (dk s') e1 = cntk κ1 e1 := by
    intro κ1 e1 n h4 he h1 hn hc ⟨a1, a2, k, a3, a4⟩
    rw [k4', h4] at a1
    have x1 := zn_inj (by omega) (by omega) a1
    have e : hz_n ((n + 1 : Nat) : Int) - hz_n 1 = hz_n (n : Int) := by rw [zn_sub]; congr 1; omega
    rw [k1', h1, e] at a2
    have x2 := zn_inj (by omega) (by omega) a2
    rw [tc] at a4
    exact ⟨by omega, by omega, cnt_K hc a3 a4⟩
  have hlen : (c :: r).length = r.length + 1 := rfl
  unfold mm
  rcases hpg with h | h | h | h | ⟨κ1, h1, h⟩
  · exact absurd h5' h
  · obtain ⟨a1, a2, a3⟩ := pP (dk s) (de s) _ k4 hle k1 l1 h
    rw [a1, a3]; omega
  · obtain ⟨a1, a2, a3⟩ := pK (dk s) (de s) r.length k4 hle k1 (by omega) (by show ks s c ≠ _; rw [hc1]; decide) h
    rw [a1, a3]; omega
  · obtain ⟨b1, b2, n, b3, b4⟩ := h
    rw [k4', k4, zn1] at b1
    have x1 := zn_inj (by omega) (by omega) b1
    rw [k1', k1] at b2
    have x2 := zn_inj (by omega) (by omega) b2
    rw [e40, zt _ (by omega), Int.toNat_natCast] at b4
    have x1' : de s' = de s + 1 := by omega
    have := cnt_E (κ := dk s) (κ' := dk s') (e := de s) (by omega) b3 b4
    rw [x1']; omega
  · obtain ⟨b1, b2, n, b3, b4⟩ := h1
    rw [k4, zn1] at b1
    rw [k1] at b2
    rw [e40, zt _ (by omega), Int.toNat_natCast] at b4
    rcases h with h | h
    · by_cases he : de s + 1 ≤ 50
      · obtain ⟨a1, a2, a3⟩ := pP κ1 (de s + 1) _ b1 he b2 l1 h
        have := cnt_E (κ := dk s) (κ' := κ1) (e := de s) (by omega) b3 b4
        rw [a1, a3]; omega
      · exfalso
        have a1 := h.1
        rw [k4', b1] at a1
        have := zn_inj (by omega) (by omega) a1
        omega
    · by_cases he : de s + 1 ≤ 50
      · have hcc : κ1.2.1 6 c ≠ hz_n 0 := by
          have : κ1.2.1 6 c = (dk s).2.1 6 c := by
            refine b4 c ?_
            rcases (K.2.2.2.1 c (List.mem_cons_self ..)).2 with h | ⟨i, p, h1, h2, h3⟩
            · omega
            · have := (zsg st I h2 h3).2.1; omega
          rw [this]
          show ks s c ≠ _
          rw [hc1]; decide
        obtain ⟨a1, a2, a3⟩ := pK κ1 (de s + 1) r.length b1 he b2 (by omega) hcc h
        have := cnt_E (κ := dk s) (κ' := κ1) (e := de s) (by omega) b3 b4
        rw [a1, a3]; omega
      · exfalso
        have a1 := h.1
        rw [k4', b1] at a1
        have := zn_inj (by omega) (by omega) a1
        omega

theorem psi_le (μ : zM) (k v : Int32) : psi μ k v ≤ 12 := by
  unfold psi
  split
  · omega
  · split
    · split
      · omega
      · exact phi_le _
    · omega
-- what becomes of a need
def bDone (S : zG) (dfs : Nat → Option Nat) (ST : Nat → Nat → Int32) (F l0 am f0 g wn wr : Nat) (kw : zK) (mw : zM) (gh : zGh) (b : Int32) (κ' : zK) (μ : zM) : Prop := ∃ μ', bRun F μ μ' ∧
  ((b = hz_n 1 ∧ ∃ s', dk s' = κ' ∧ bSim S dfs ST l0 am f0 g wn wr kw mw s' μ' [] ∧ ghL gh (ghs s')) ∨ (b = hz_n 0 ∧ ∃ z : Int, -5 ≤ z ∧ z < 0 ∧ κ'.1 5 = hz_n z ∧ μ'.1 21 = hz_n z ∧ (∃ e : Nat, e ≤ 50 ∧ κ'.1 4 = hz_n e ∧ μ'.1 20 = hz_n e) ∧ bFix kw mw f0 κ' μ'))
theorem g_nf0 {κ : zK} (h : κ.1 5 = hz_n 0) : g_nf κ = some (hz_n 1, κ) := by
  unfold g_nf; rw [h, zn_ti (by omega), if_pos rfl]
theorem g_nfz {κ : zK} {z : Int} (h : κ.1 5 = hz_n z) (hz : -5 ≤ z ∧ z < 0) : g_nf κ = some (hz_n 0, κ) := by
  unfold g_nf; rw [h, zn_ti (by omega), if_neg (by omega)]
theorem bRoomyT {E : Nat → Option zT} {dfs : Nat → Option Nat} {ST : Nat → Nat → Int32} {F l0 am f0 g wn wr : Nat} {S : zG} {kw : zK} {mw : zM} {s : zD} {μ : zM} {c : Nat} {r : List Nat}
    (st : bSta E dfs ST F S) (cap : ∀ l, l < 26 → dfs l ≠ none → bCap S l) (hwn : wn ≤ 61) (hwr : wr ≤ 60) (hf0 : f0 ≤ 62) (H : bSim S dfs ST l0 am f0 g wn wr kw mw s μ (c :: r)) : ∀ f1 f2, bFr S l0 f0 s r c f1 → bKF S s c f1 f2 → bRoomy s f2 := by
  intro f1 f2 fr kf
  obtain ⟨I, K, fx, h5, hg, g1, g2, _, _, _, ph⟩ := H
  have hb := bFrames st I K fr kf
  have key : ∃ cr ps, ps ≤ 12 ∧ bCnt S s wn wr cr ps 0 0 := by
    rcases ph with ⟨_, _, cnt, _⟩ | ⟨m, cr, _, _, _, cnt, _⟩ | ⟨i, p, k, v, _, _, _, _, _, cnt, _⟩ | ⟨d, f, k, v, _, _, _, cnt, _⟩ | ⟨i, p, i', f, _, _, _, _, _, _, _, _, a, _, _, _, _, _, cnt, _⟩
    · exact ⟨_, _, by omega, cnt⟩
    · exact ⟨_, _, by omega, cnt⟩
    · exact ⟨_, _, by omega, cnt⟩
    · exact ⟨_, _, psi_le _ _ _, cnt⟩
    · exact ⟨_, _, by omega, cnt⟩
  obtain ⟨cr, ps, hps, cnt⟩ := key
  obtain ⟨a1, a2, a3⟩ := bRoom st I cap hwn hwr hps cnt
  exact ⟨by omega, a1, a2, a3⟩
theorem mm_le {E : Nat → Option zT} {dfs : Nat → Option Nat} {ST : Nat → Nat → Int32} {F l0 am : Nat} {S : zG} {s : zD} {sk : List Nat} (st : bSta E dfs ST F S) (I : bInv S dfs ST l0 am s) : mm s sk ≤ 7052 := by
  have := cntk_le (dk s) (de s)
  have := b_le I
  unfold mm; omega
-- the loop of need
theorem g_ndT {E : Nat → Option zT} {dfs : Nat → Option Nat} {ST : Nat → Nat → Int32} {F l0 am f0 g wn wr : Nat} {S : zG} {kw : zK} {mw : zM} (hF : 951 ≤ F) (st : bSta E dfs ST F S) (cap : ∀ l, l < 26 → dfs l ≠ none → bCap S l) (hwn : wn ≤ 61) (hwr : wr ≤ 60) (hf0 : f0 ≤ 62) :
    ∀ (d f k : Nat) (s : zD) (μ : zM) (sk : List Nat), 7100 ≤ mm s sk + d → k + d < 999999 → d + 1 < f → bSim S dfs ST l0 am f0 g wn wr kw mw s μ sk → ∃ b κ', g_nd E f (dk s) (hz_n k) = some (b, κ') ∧ bDone S dfs ST F l0 am f0 g wn wr kw mw (ghs s) b κ' μ := by
  intro d
  induction d with
  | zero =>
    intro f k s μ sk hm _ _ H
    have := mm_le (sk := sk) st (bSim_i H).1
    omega
  | succ d ih =>
    intro f k s μ sk hm hk hf H
    obtain ⟨f, rfl⟩ : ∃ f', f = f' + 1 := ⟨f - 1, by omega⟩
    obtain ⟨I, K, h5⟩ := bSim_i H
    rw [g_nd, zt k (by omega), if_neg (by omega), K.1]
    cases sk with
    | nil =>
      have z0 : (hz_n (([] : List Nat).length : Int)).toInt = 0 := zn_ti (by simp)
      rw [z0, if_pos (by omega), g_nf0 h5]
      exact ⟨_, _, rfl, μ, bRun_refl _ _, Or.inl ⟨rfl, s, rfl, H, ghL_r _⟩⟩
    | cons c r =>
      have hlen : r.length + 1 ≤ 2001 := by
        have : (c :: r).length ≤ 2001 := nodup_len K.2.2.1 fun x hx => by
          rcases (K.2.2.2.1 _ hx).2 with h | ⟨i, p, h1, h2, h3⟩
          · omega
          · have := (zsg st I h2 h3).2.2.2; omega
        exact this
      have e1 : hz_n ((c :: r).length : Int) = hz_n ((r.length + 1 : Nat) : Int) := rfl
      have e2 : hz_n ((r.length + 1 : Nat) : Int) - hz_n 1 = hz_n (r.length : Int) := by rw [zn_sub]; congr 1; omega
      rw [e1, zt _ (by omega), if_neg (by omega), h5, zn_ti (by omega), if_pos rfl, e2, zt r.length (by omega), zgd_t (by omega), Int.toNat_natCast, K.2.1.1, zn1]
      obtain ⟨κ1, g1, μ1, run1, out⟩ := bStep hF st H (bRoomyT st cap hwn hwr hf0 H)
      rw [g1, Option.bind_some]
      rcases out with ⟨s1, sk1, e3, H1, G1⟩ | ⟨z, z1, z2, z3, z4, z5, z6⟩
      · have hp := bProg st H H1 (by rw [e3]; exact g1)
        obtain ⟨b, κ', a1, μ', a2, a3⟩ := ih f (k + 1) s1 μ1 sk1 (by omega) (by omega) (by omega) H1
        rw [e3] at a1
        refine ⟨b, κ', a1, μ', bRun_trans run1 a2, ?_⟩
        rcases a3 with ⟨c1, s2, c2, c3, c4⟩ | a3
        · exact Or.inl ⟨c1, s2, c2, c3, ghL_t G1 c4⟩
        · exact Or.inr a3
      · refine ⟨hz_n 0, κ1, ?_, μ1, run1, Or.inr ⟨rfl, z, z1, z2, z3, z4, z5, z6⟩⟩
        obtain ⟨f, rfl⟩ : ∃ f', f = f' + 1 := ⟨f - 1, by omega⟩
        rw [g_nd, zt (k + 1) (by omega), if_neg (by omega)]
        have hnf := g_nfz z3 ⟨z1, z2⟩
        split
        · exact hnf
        · rw [if_neg (by rw [z3, zn_ti (by omega)]; omega)]; exact hnf

-- the pages
def bPg (κ : zK) (μ : zM) (n : Nat) : Prop := n ≤ 60 ∧ κ.1 6 = hz_n n ∧ μ.1 12 = hz_n n ∧ ∀ j, j < n → κ.2.1 13 j = μ.2 17 j
-- either both go on with the same page, or both have ended with LONG
def bPut (κ : zK) (μ : zM) : Prop := (∃ n, bPg κ μ n ∧ κ.1 5 = hz_n 0 ∧ μ.1 21 = hz_n 0) ∨ (bPg κ μ 60 ∧ κ.1 5 = hz_n (-5) ∧ μ.1 21 = hz_n (-5))
-- all else stays
def kOth (κ κ' : zK) : Prop := (∀ b, b ≠ 5 → b ≠ 6 → κ'.1 b = κ.1 b) ∧ (∀ b, b ≠ 13 → κ'.2.1 b = κ.2.1 b) ∧ κ'.2.2 = κ.2.2
def mOth (μ μ' : zM) : Prop := (∀ b, b ≠ 12 → b ≠ 21 → μ'.1 b = μ.1 b) ∧ (∀ b, b ≠ 17 → μ'.2 b = μ.2 b)
theorem kOth_r (κ : zK) : kOth κ κ := ⟨fun _ _ _ => rfl, fun _ _ => rfl, rfl⟩
theorem mOth_r (μ : zM) : mOth μ μ := ⟨fun _ _ _ => rfl, fun _ _ => rfl⟩
theorem kOth_t {κ κ' κ'' : zK} (h : kOth κ κ') (h' : kOth κ' κ'') : kOth κ κ'' := ⟨fun b b1 b2 => by rw [h'.1 b b1 b2, h.1 b b1 b2], fun b hb => by rw [h'.2.1 b hb, h.2.1 b hb], by rw [h'.2.2, h.2.2]⟩
theorem mOth_t {μ μ' μ'' : zM} (h : mOth μ μ') (h' : mOth μ' μ'') : mOth μ μ'' := ⟨fun b b1 b2 => by rw [h'.1 b b1 b2, h.1 b b1 b2], fun b hb => by rw [h'.2 b hb, h.2 b hb]⟩
theorem bPut1 {κ : zK} {μ : zM} {x : Int32} (H : bPut κ μ) : ∃ q, g_put κ x = some q ∧ bPut q.2 (m_put μ x) ∧ kOth κ q.2 ∧ mOth μ (m_put μ x) ∧ (0 ≤ (μ.1 12).toInt ∧ (μ.1 12).toInt ≤ 60) ∧ (q.2.1 5 = hz_n 0 ↔ q.1 = hz_n 1) ∧ (q.1 = hz_n 1 ∨ q.1 = hz_n 0) ∧ (∀ n, bPg κ μ n → q.1 = hz_n 1 → κ.1 5 = hz_n 0 → bPg q.2 (m_put μ x) (n + 1)) ∧ (q.1 = hz_n 0 → q.2.1 5 = hz_n (-5)) := by
  rcases H with ⟨n, ⟨p1, p2, p3, p4⟩, h5, h21⟩ | ⟨⟨p1, p2, p3, p4⟩, h5, h21⟩
  · unfold g_put m_put
    rw [p2, p3, h21, zt n (by omega), zn_ti (by omega), if_pos rfl]
    by_cases e : n = 60
    · subst e
      rw [if_pos (by omega), if_pos (by rfl)]
      refine ⟨_, rfl, Or.inr ⟨⟨p1, p2, p3, p4⟩, rfl, rfl⟩, ⟨fun b b1 b2 => by show (kS κ 5 _).1 b = _; rw [kS1, if_neg b1], fun _ _ => rfl, rfl⟩, ⟨fun b b1 b2 => by rw [mS1, if_neg b2], fun _ _ => rfl⟩, by omega, ?_, Or.inr rfl, ?_, fun _ => rfl⟩
      · constructor
        · intro h; have h' : hz_n (-5) = hz_n 0 := h; exact absurd h' (by decide)
        · intro h; have h' : hz_n 0 = hz_n 1 := h; exact absurd h' (by decide)
      · intro m _ h; have h' : hz_n 0 = hz_n 1 := h; exact absurd h' (by decide)
    · rw [if_neg (by omega), if_neg (by omega), zgd_t (by omega), Int.toNat_natCast, zn1]
      have hpg : bPg (kS (kA κ 13 n x) 6 (hz_n (n + 1 : Nat))) (mS (mA μ 17 n x) 12 (hz_n (n + 1 : Nat))) (n + 1) := by
        refine ⟨by omega, rfl, rfl, fun j hj => ?_⟩
        rw [kS2, mS2, kA2, mA2, if_pos rfl, if_pos rfl]
        by_cases ej : j = n
        · rw [if_pos ej, if_pos ej]
        · rw [if_neg ej, if_neg ej]; exact p4 j (by omega)
      refine ⟨_, rfl, Or.inl ⟨n + 1, hpg, h5, h21⟩, ⟨fun b b1 b2 => by show (kS (kA κ 13 n x) 6 _).1 b = _; rw [kS1, if_neg b2]; rfl, fun b hb => by show (kS (kA κ 13 n x) 6 _).2.1 b = _; rw [kS2, kA2n _ _ _ _ _ hb], rfl⟩, ⟨fun b b1 b2 => by rw [mS1, if_neg b1]; rfl, fun b hb => by rw [mS2, mA2n _ _ _ _ _ hb]⟩, by omega, ⟨fun _ => rfl, fun _ => h5⟩, Or.inl rfl, ?_, ?_⟩
      · intro m hm _ _
        have e1 := hm.2.1
        rw [p2] at e1
        have := zn_inj (by omega) (by have := hm.1; omega) e1
        have e2 : m = n := by omega
        subst e2; exact hpg
      · intro h; have h' : hz_n 1 = hz_n 0 := h; exact absurd h' (by decide)
  · unfold g_put m_put
    rw [p2, p3, h21, zt 60 (by omega), zn_ti (by omega), if_pos (show (60 : Int) ≤ ((60 : Nat) : Int) by omega), if_neg (show ¬ (-5 : Int) = 0 by omega)]
    refine ⟨_, rfl, Or.inr ⟨⟨p1, p2, p3, p4⟩, rfl, h21⟩, ⟨fun b b1 b2 => by show (kS κ 5 _).1 b = _; rw [kS1, if_neg b1], fun _ _ => rfl, rfl⟩, mOth_r _, by omega, ?_, Or.inr rfl, ?_, fun _ => rfl⟩
    · constructor
      · intro h; have h' : hz_n (-5) = hz_n 0 := h; exact absurd h' (by decide)
      · intro h; have h' : hz_n 0 = hz_n 1 := h; exact absurd h' (by decide)
    · intro m _ h; have h' : hz_n 0 = hz_n 1 := h; exact absurd h' (by decide)
-- the digits
theorem zdig {r u : Int64} (hr : 0 ≤ r.toInt ∧ r.toInt ≤ 4294967296) (hu : 1 ≤ u.toInt ∧ u.toInt ≤ 100000000000) : hz_ch (48 + (r / u - r / u / 10 * 10)).toInt32 = hz_n 48 + (r / u - r / u / 10 * 10).toInt32 := by
  have q0 : (r / u).toInt = r.toInt / u.toInt := by
    rw [Int64.toInt_div]
    have h1 : 0 ≤ r.toInt / u.toInt := Int.ediv_nonneg hr.1 (by omega)
    have h2 : r.toInt / u.toInt ≤ r.toInt := Int.ediv_le_self _ hr.1
    rw [Int.tdiv_eq_ediv_of_nonneg hr.1]
    simp [Int.bmod]; omega
  have q1 : 0 ≤ (r / u).toInt ∧ (r / u).toInt ≤ 4294967296 := by
    rw [q0]
    exact ⟨Int.ediv_nonneg hr.1 (by omega), Int.le_trans (Int.ediv_le_self _ hr.1) hr.2⟩
  generalize r / u = q at *
  have q2 : (q / 10).toInt = q.toInt / 10 := by
    rw [Int64.toInt_div]
    have : (10 : Int64).toInt = 10 := by decide
    rw [this, Int.tdiv_eq_ediv_of_nonneg q1.1]
    simp [Int.bmod]; omega
  have q3 : (q - q / 10 * 10).toInt = q.toInt - q.toInt / 10 * 10 := by
    rw [Int64.toInt_sub, Int64.toInt_mul, q2]
    have : (10 : Int64).toInt = 10 := by decide
    rw [this]
    simp [Int.bmod]; omega
  have q4 : 0 ≤ (q - q / 10 * 10).toInt ∧ (q - q / 10 * 10).toInt ≤ 9 := by rw [q3]; omega
  generalize q - q / 10 * 10 = d at *
  have hd : d = Int64.ofInt d.toInt := (Int64.ofInt_toInt d).symm
  have cases : d.toInt = 0 ∨ d.toInt = 1 ∨ d.toInt = 2 ∨ d.toInt = 3 ∨ d.toInt = 4 ∨ d.toInt = 5 ∨ d.toInt = 6 ∨ d.toInt = 7 ∨ d.toInt = 8 ∨ d.toInt = 9 := by omega
  rcases cases with h | h | h | h | h | h | h | h | h | h <;> rw [h] at hd <;> subst hd <;> decide

theorem bPg_u {κ : zK} {μ : zM} {n m : Nat} (h : bPg κ μ n) (h' : bPg κ μ m) : n = m := by
  have e : hz_n (n : Int) = hz_n (m : Int) := by rw [← h.2.1, h'.2.1]
  have := zn_inj (by have := h.1; omega) (by have := h'.1; omega) e
  omega
-- as far as both go on, so many signs more
def bMore (κ : zK) (μ : zM) (κ' : zK) (μ' : zM) (j : Nat) : Prop := κ'.1 5 = hz_n 0 → κ.1 5 = hz_n 0 ∧ ∃ n n', n + j ≤ n' ∧ bPg κ μ n ∧ bPg κ' μ' n'
theorem bMore_r {κ : zK} {μ : zM} (H : bPut κ μ) : bMore κ μ κ μ 0 := by
  intro h
  rcases H with ⟨n, h1, _⟩ | ⟨_, h5, _⟩
  · exact ⟨h, n, n, Nat.le_refl _, h1, h1⟩
  · rw [h5] at h; exact absurd h (by decide)
theorem bMore_t {κ κ1 κ' : zK} {μ μ1 μ' : zM} {i j : Nat} (h : bMore κ μ κ1 μ1 i) (h' : bMore κ1 μ1 κ' μ' j) : bMore κ μ κ' μ' (i + j) := by
  intro h0
  obtain ⟨a1, n1, n', a2, a3, a4⟩ := h' h0
  obtain ⟨b1, n, n1', b2, b3, b4⟩ := h a1
  have := bPg_u a3 b4
  exact ⟨b1, n, n', by omega, b3, a4⟩
theorem bMore1 {κ : zK} {μ : zM} {x : Int32} {q : Int32 × zK} (H : bPut κ μ) (hq : g_put κ x = some q) : bMore κ μ q.2 (m_put μ x) 1 := by
  obtain ⟨q', a1, a2, a3, a4, a5, a6, a7, a8, a9⟩ := bPut1 (x := x) H
  rw [hq] at a1
  have := Option.some.inj a1
  subst this
  intro h0
  have h1 := a6.mp h0
  rcases H with ⟨n, h2, h5, _⟩ | ⟨hp, h5, h21⟩
  · exact ⟨h5, n, n + 1, Nat.le_refl _, h2, a8 n h2 h1 h5⟩
  · exfalso
    unfold g_put at hq
    rw [hp.2.1, zt 60 (by omega), if_pos (show (60 : Int) ≤ ((60 : Nat) : Int) by omega)] at hq
    have := Option.some.inj hq
    subst this
    have h1' : hz_n 0 = hz_n 1 := h1
    exact absurd h1' (by decide)
theorem m_putok {μ : zM} {x : Int32} (h : 0 ≤ (μ.1 12).toInt ∧ (μ.1 12).toInt ≤ 60) (y : Option zM) : zgd (0 ≤ (μ.1 12).toInt ∧ (μ.1 12).toInt ≤ 60) y = y := zgd_t h
theorem bPn3 {r : Int64} (hr : 0 ≤ r.toInt ∧ r.toInt ≤ 4294967296) : ∀ (j f : Nat) (κ : zK) (μ : zM), j < f → j ≤ 12 → bPut κ μ → ∃ κ' μ', g_pn3 r f κ (if j = 0 then 0 else Int64.ofNat (10 ^ (j - 1))) = some κ' ∧ m_pn3 r f μ (if j = 0 then 0 else Int64.ofNat (10 ^ (j - 1))) = some μ' ∧ bPut κ' μ' ∧ kOth κ κ' ∧ mOth μ μ' ∧ bMore κ μ κ' μ' j := by
  intro j
  induction j with
  | zero =>
    intro f κ μ hf _ H
    obtain ⟨f, rfl⟩ : ∃ f', f = f' + 1 := ⟨f - 1, by omega⟩
    refine ⟨κ, μ, ?_, ?_, H, kOth_r _, mOth_r _, bMore_r H⟩
    · rw [if_pos rfl, g_pn3, if_pos (by decide)]
    · rw [if_pos rfl, m_pn3, if_pos (by decide)]
  | succ j ih =>
    intro f κ μ hf hj H
    obtain ⟨f, rfl⟩ : ∃ f', f = f' + 1 := ⟨f - 1, by omega⟩
    have hu : ¬ (Int64.ofNat (10 ^ j) ≤ Int64.ofNat 0) ∧ Int64.ofNat (10 ^ j) / 10 = (if j = 0 then 0 else Int64.ofNat (10 ^ (j - 1))) ∧ (1 ≤ (Int64.ofNat (10 ^ j)).toInt ∧ (Int64.ofNat (10 ^ j)).toInt ≤ 100000000000) := by
      have : j = 0 ∨ j = 1 ∨ j = 2 ∨ j = 3 ∨ j = 4 ∨ j = 5 ∨ j = 6 ∨ j = 7 ∨ j = 8 ∨ j = 9 ∨ j = 10 ∨ j = 11 := by omega
      rcases this with h | h | h | h | h | h | h | h | h | h | h | h <;> subst h <;> decide
    have e0 : (if j + 1 = 0 then (0 : Int64) else Int64.ofNat (10 ^ (j + 1 - 1))) = Int64.ofNat (10 ^ j) := by rw [if_neg (by omega)]; rfl
    rw [e0]
    obtain ⟨q, a1, a2, a3, a4, a5, _⟩ := bPut1 (x := hz_n 48 + (r / Int64.ofNat (10 ^ j) - r / Int64.ofNat (10 ^ j) / 10 * 10).toInt32) H
    obtain ⟨κ', μ', b1, b2, b3, b4, b5, b6⟩ := ih f q.2 _ (by omega) (by omega) a2
    refine ⟨κ', μ', ?_, ?_, b3, kOth_t a3 b4, mOth_t a4 b5, by have := bMore_t (bMore1 H a1) b6; rw [Nat.add_comm] at this; exact this⟩
    · rw [g_pn3, if_neg hu.1, zdig hr hu.2.2, a1, Option.bind_some, hu.2.1]; exact b1
    · rw [m_pn3, if_neg hu.1, zgd_t a5, hu.2.1]; exact b2
theorem bPn2 {r : Int64} (hr : 0 ≤ r.toInt ∧ r.toInt ≤ 4294967296) {κ : zK} {μ : zM} (H : bPut κ μ) : ∀ (d j f : Nat), j + d = 10 → d < f → j ≤ 10 → ∃ κ' μ', g_pn2 κ r f (Int64.ofNat (10 ^ j)) = some κ' ∧ m_pn2 μ r f (Int64.ofNat (10 ^ j)) = some μ' ∧ bPut κ' μ' ∧ kOth κ κ' ∧ mOth μ μ' ∧ bMore κ μ κ' μ' 1 := by
  intro d
  induction d with
  | zero =>
    intro j f hj hf _
    obtain ⟨f, rfl⟩ : ∃ f', f = f' + 1 := ⟨f - 1, by omega⟩
    have : j = 10 := by omega
    subst this
    have hlt : r < Int64.ofNat (10 ^ 10) * 10 := by
      rw [Int64.lt_iff_toInt_lt]
      have : (Int64.ofNat (10 ^ 10) * 10).toInt = 100000000000 := by decide
      rw [this]; omega
    obtain ⟨κ', μ', b1, b2, b3, b4, b5, b6⟩ := bPn3 hr 11 25 κ μ (by omega) (by omega) H
    exact ⟨κ', μ', by rw [g_pn2, if_pos hlt]; exact b1, by rw [m_pn2, if_pos hlt]; exact b2, b3, b4, b5, fun h => by obtain ⟨c1, n, n', c2, c3, c4⟩ := b6 h; exact ⟨c1, n, n', by omega, c3, c4⟩⟩
  | succ d ih =>
    intro j f hj hf hj10
    obtain ⟨f, rfl⟩ : ∃ f', f = f' + 1 := ⟨f - 1, by omega⟩
    by_cases hlt : r < Int64.ofNat (10 ^ j) * 10
    · obtain ⟨κ', μ', b1, b2, b3, b4, b5, b6⟩ := bPn3 hr (j + 1) 25 κ μ (by omega) (by omega) H
      have e0 : (if j + 1 = 0 then (0 : Int64) else Int64.ofNat (10 ^ (j + 1 - 1))) = Int64.ofNat (10 ^ j) := by rw [if_neg (by omega)]; rfl
      rw [e0] at b1 b2
      exact ⟨κ', μ', by rw [g_pn2, if_pos hlt]; exact b1, by rw [m_pn2, if_pos hlt]; exact b2, b3, b4, b5, fun h => by obtain ⟨c1, n, n', c2, c3, c4⟩ := b6 h; exact ⟨c1, n, n', by omega, c3, c4⟩⟩
    · have hm : Int64.ofNat (10 ^ j) * 10 = Int64.ofNat (10 ^ (j + 1)) := by
        have : j = 0 ∨ j = 1 ∨ j = 2 ∨ j = 3 ∨ j = 4 ∨ j = 5 ∨ j = 6 ∨ j = 7 ∨ j = 8 ∨ j = 9 := by omega
        rcases this with h | h | h | h | h | h | h | h | h | h <;> subst h <;> decide
      obtain ⟨κ', μ', b1, b2, b3, b4, b5, b6⟩ := ih (j + 1) f (by omega) (by omega) (by omega)
      exact ⟨κ', μ', by rw [g_pn2, if_neg hlt, hm]; exact b1, by rw [m_pn2, if_neg hlt, hm]; exact b2, b3, b4, b5, b6⟩
theorem bPutN {κ : zK} {μ : zM} {x : Int32} (H : bPut κ μ) : ∃ κ' μ', g_putNumber κ x = some κ' ∧ m_putNumber μ x = some μ' ∧ bPut κ' μ' ∧ kOth κ κ' ∧ mOth μ μ' ∧ bMore κ μ κ' μ' 1 := by
  have hx := x.toInt_lt
  have hx' := x.le_toInt
  have e64 : x.toInt64.toInt = x.toInt := Int32.toInt_toInt64 x
  have o1 : Int64.ofNat 1 = Int64.ofNat (10 ^ 0) := rfl
  unfold g_putNumber m_putNumber
  by_cases h0 : Int64.ofNat 0 ≤ x.toInt64
  · rw [if_pos h0, if_pos h0, o1]
    have h1 : 0 ≤ x.toInt := by
      rw [Int64.le_iff_toInt_le, e64] at h0
      have : (Int64.ofNat 0).toInt = 0 := by decide
      omega
    exact bPn2 ⟨by omega, by omega⟩ H 10 0 25 (by omega) (by omega) (by omega)
  · rw [if_neg h0, if_neg h0, o1]
    have h1 : x.toInt < 0 := by
      rw [Int64.le_iff_toInt_le, e64] at h0
      have : (Int64.ofNat 0).toInt = 0 := by decide
      omega
    obtain ⟨q, a1, a2, a3, a4, a5, _⟩ := bPut1 (x := hz_n 45) H
    have hneg : (-x.toInt64).toInt = -x.toInt := by
      rw [Int64.toInt_neg, e64]; simp [Int.bmod]; omega
    obtain ⟨κ', μ', b1, b2, b3, b4, b5, b6⟩ := bPn2 (r := -x.toInt64) (by rw [hneg]; omega) a2 10 0 25 (by omega) (by omega) (by omega)
    refine ⟨κ', μ', ?_, ?_, b3, kOth_t a3 b4, mOth_t a4 b5, fun h => by obtain ⟨c1, n, n', c2, c3, c4⟩ := bMore_t (bMore1 H a1) b6 h; exact ⟨c1, n, n', by omega, c3, c4⟩⟩
    · rw [a1, Option.bind_some]; exact b1
    · rw [zgd_t a5]; exact b2
