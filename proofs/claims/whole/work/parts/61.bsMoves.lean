def kPush (κ : zK) (c n : Nat) : zK := kS (kA (kA (kA (kA κ 6 c (hz_n 1)) 9 c (hz_n (c + 1 : Nat))) 10 c (hz_n (c + 1 : Nat))) 11 n (hz_n c)) 1 (hz_n (n + 1 : Nat))
theorem q_req0 {κ : zK} {c n : Nat} (hc : c < 2001) (h : κ.2.1 6 c = hz_n 0) (hn : κ.1 1 = hz_n n) (hl : n < 2001) : g_request κ (hz_n c) = some (hz_n 0, kPush κ c n) := by
  unfold g_request
  rw [zt c (by omega), zgd_t (by omega), Int.toNat_natCast, h, zn_ti (by omega), if_neg (by decide), if_pos rfl, hn, zt n (by omega), zgd_t (by omega), Int.toNat_natCast, zn1, zn1]
  rfl
theorem q_req1 {κ : zK} {c : Nat} (hc : c < 2001) (h : κ.2.1 6 c = hz_n 1) : g_request κ (hz_n c) = some (hz_n 0, kS κ 5 (hz_n (-4))) := by
  unfold g_request
  rw [zt c (by omega), zgd_t (by omega), Int.toNat_natCast, h, zn_ti (by omega), if_pos rfl]
theorem q_reqk {κ : zK} {c : Nat} (hc : c < 2001) (h0 : κ.2.1 6 c ≠ hz_n 0) (h1 : κ.2.1 6 c ≠ hz_n 1) : g_request κ (hz_n c) = some (hz_n 1, κ) := by
  unfold g_request
  have e0 : ¬ (κ.2.1 6 c).toInt = 0 := fun e => h0 (by rw [← e, zn_of])
  have e1 : ¬ (κ.2.1 6 c).toInt = 1 := fun e => h1 (by rw [← e, zn_of])
  rw [zt c (by omega), zgd_t (by omega), Int.toNat_natCast, if_neg e1, if_neg e0]
def kKeep (κ : zK) (c n : Nat) (x v : Int32) : zK := kS (kA (kA κ 6 c x) 7 c v) 1 (hz_n n)
theorem q_keep {κ : zK} {c n : Nat} {x v : Int32} (hc : c < 2001) (hn : κ.1 1 = hz_n (n + 1 : Nat)) : g_keep κ (hz_n c) x v = some (kKeep κ c n x v) := by
  unfold g_keep
  rw [zt c (by omega), zgd_t (by omega), Int.toNat_natCast, hn, zn_sub]
  have : ((n + 1 : Nat) : Int) - 1 = n := by omega
  rw [this]; rfl
theorem zvr {S : zG} {dfs : Nat → Option Nat} {s : zD} {x w k v : Int32} (H : bVR S dfs s x w k v) : x ≠ hz_n 0 ∧ x ≠ hz_n 1 := by
  have h : x = hz_n 2 ∨ x = hz_n 3 ∨ x = hz_n 4 ∨ x = hz_n 5 := by
    rcases H with h | h | h | h
    · exact Or.inl h.1
    · exact Or.inr (Or.inl h.1)
    · exact Or.inr (Or.inr (Or.inl h.1))
    · exact Or.inr (Or.inr (Or.inr h.1))
  rcases h with h | h | h | h <;> rw [h] <;> exact ⟨by decide, by decide⟩
-- a push
def bsP (s : zD) (c n : Nat) (a : Int) : zD := (kPush (dk s) c n, dm s, dg s, fun x => if x = c then a else da s x, (dk s, s).2.2.2.2.2)
theorem bsP_ks (s : zD) (c n : Nat) (a : Int) (x : Nat) : ks (bsP s c n a) x = if x = c then hz_n 1 else ks s x := by
  show (kPush (dk s) c n).2.1 6 x = _
  unfold kPush; simp only [kS2, kA2]; simp
theorem bsP_kv (s : zD) (c n : Nat) (a : Int) (x : Nat) : kv (bsP s c n a) x = kv s x := by
  show (kPush (dk s) c n).2.1 7 x = _
  unfold kPush; simp only [kS2, kA2]; simp
theorem bsP_k (s : zD) (c n : Nat) (a : Int) (b x : Nat) (h : b = 5 ∨ b = 7 ∨ b = 8 ∨ b = 13 ∨ b = 14) : (dk (bsP s c n a)).2.1 b x = (dk s).2.1 b x := by
  show (kPush (dk s) c n).2.1 b x = _
  unfold kPush; simp only [kS2, kA2]
  rcases h with h | h | h | h | h <;> subst h <;> simp
theorem bsP_9 (s : zD) (c n : Nat) (a : Int) (x : Nat) : (dk (bsP s c n a)).2.1 9 x = if x = c then hz_n (c + 1 : Nat) else (dk s).2.1 9 x := by
  show (kPush (dk s) c n).2.1 9 x = _
  unfold kPush; simp only [kS2, kA2]; simp
theorem bsP_10 (s : zD) (c n : Nat) (a : Int) (x : Nat) : (dk (bsP s c n a)).2.1 10 x = if x = c then hz_n (c + 1 : Nat) else (dk s).2.1 10 x := by
  show (kPush (dk s) c n).2.1 10 x = _
  unfold kPush; simp only [kS2, kA2]; simp
theorem bsP_11 (s : zD) (c n : Nat) (a : Int) (x : Nat) : (dk (bsP s c n a)).2.1 11 x = if x = n then hz_n c else (dk s).2.1 11 x := by
  show (kPush (dk s) c n).2.1 11 x = _
  unfold kPush; simp only [kS2, kA2]; simp
theorem bsP_s (s : zD) (c n : Nat) (a : Int) (x : Nat) : (dk (bsP s c n a)).1 x = if x = 1 then hz_n (n + 1 : Nat) else (dk s).1 x := by
  show (kPush (dk s) c n).1 x = _
  unfold kPush; simp only [kS1, kA1]
theorem bSk_push {s : zD} {c n : Nat} {a : Int} : ∀ {sk : List Nat}, sk.length ≤ n → bSk s sk → bSk (bsP s c n a) sk
  | [], _, _ => trivial
  | x :: r, h, H => by
    have : r.length + 1 ≤ n := h
    refine ⟨?_, bSk_push (by omega) H.2⟩
    rw [bsP_11, if_neg (by omega)]; exact H.1
theorem bP_up {S : zG} {dfs : Nat → Option Nat} {s : zD} {c n : Nat} {a : Int} (hz : ∀ k, k < dnb s → ∃ z : Int, (dm s).2 36 k = hz_n z ∧ -1 ≤ z ∧ z < k) :
    bUp S dfs s (bsP s c n a) (· = c) (fun _ => False) (fun _ => False) (fun _ => False) := by
  refine ⟨⟨⟨fun _ _ h => h, fun _ _ h => h, fun x _ => bsP_k s c n a 8 x (by simp)⟩, ⟨Nat.le_refl _, fun _ _ => rfl⟩, ⟨Nat.le_refl _, fun _ _ => ⟨rfl, rfl, rfl⟩⟩, ⟨Nat.le_refl _, fun _ _ => rfl⟩, hz⟩, ?_, ?_, fun _ _ => rfl, fun _ h => h.elim, fun _ _ => ⟨rfl, rfl, fun _ => rfl, fun _ _ => rfl⟩, Nat.le_refl _, fun _ _ _ h => h⟩
  · intro x hx
    refine ⟨?_, fun _ => bsP_kv s c n a x, fun _ => ⟨?_, ?_⟩⟩
    · rw [bsP_ks, if_neg hx]
    · rw [bsP_9, if_neg hx]
    · rw [bsP_10, if_neg hx]
  · intro x _
    refine ⟨rfl, fun hx => ?_, rfl⟩
    show (if x = c then a else da s x) = _
    rw [if_neg hx]
theorem bDefs_of {E : Nat → Option zT} {dfs : Nat → Option Nat} {ST : Nat → Nat → Int32} {F l0 am : Nat} {S : zG} {s : zD} (st : bSta E dfs ST F S) (I : bInv S dfs ST l0 am s) : bDefs ST F S s := by
  intro i hi
  obtain ⟨h1, h2, h3⟩ := I.2.2.1 i hi
  rcases st _ h1 with h | ⟨d, T, _, _, _, h⟩
  · exact absurd h.1 h3
  · exact ⟨T, h⟩
theorem bPush {E : Nat → Option zT} {dfs : Nat → Option Nat} {ST : Nat → Nat → Int32} {F l0 am : Nat} {S : zG} {s : zD} {sk : List Nat} (st : bSta E dfs ST F S) (I : bInv S dfs ST l0 am s) (K : bStk S s sk)
    {i p : Nat} (hi : i < de s) (hc : s_cl S (dl s i) p = 1) (h0 : ks s (40 * i + p) = hz_n 0)
    (hpar : s_ro S (dl s i) p = 0 → s_cl S (dl s i) (s_pa S (dl s i) p) = 1 → ks s (40 * i + s_pa S (dl s i) p) ≠ hz_n 0) (hg : (dg s (40 * i + p) = none ∧ s_ro S (dl s i) p ≠ 1 ∧ s_ro S (dl s i) p ≠ 2) ∨ (dg s (40 * i + p) ≠ none ∧ ¬ bOwn S (dl s i) p)) (a : Int) :
    bInv S dfs ST l0 am (bsP s (40 * i + p) sk.length a) ∧ bStk S (bsP s (40 * i + p) sk.length a) ((40 * i + p) :: sk) := by
  have D := bDefs_of st I
  obtain ⟨T, DT⟩ := D i hi
  have hp := bKid_lt DT hc
  obtain ⟨i1, i2, i3, i4, i5, i6, i7, i8⟩ := id I
  have hb : dnb s ≤ 950 := i2.2.2.2.2.2.2.2.2.2.2.2.2.2
  have u := bP_up (S := S) (dfs := dfs) (s := s) (c := 40 * i + p) (n := sk.length) (a := a) i7
  refine ⟨⟨i1, ?_, i3, ?_, i5, ?_, i7, ?_⟩, ?_⟩
  · obtain ⟨a1, a2, a3, a4, a5, a6, a7, a8⟩ := i2
    refine ⟨?_, a2, ?_, a4, a5, a6, ?_, a8⟩
    · rw [bsP_s, if_neg (by decide)]; exact a1
    · rw [bsP_s, if_neg (by decide)]; exact a3
    · rw [bsP_s, if_neg (by decide)]; exact a7
  · intro l hl
    rw [bsP_k _ _ _ _ 5 _ (by simp)]
    rcases i4 l hl with h | ⟨y1, i', q, y2, y3, y4, y5, y6, y7, y8, y9⟩
    · exact Or.inl h
    · refine Or.inr ⟨y1, i', q, y2, y3, y4, y5, y6, y7, y8, ?_⟩
      rw [bsP_ks]
      split
      · decide
      · exact y9
  · intro x t hx
    rw [bsP_kv]; exact i6 x t hx
  · intro i' p' hi' hc'
    obtain ⟨T', DT'⟩ := D i' hi'
    have hp' := bKid_lt DT' hc'
    by_cases he : 40 * i' + p' = 40 * i + p
    · have e1 : i' = i := by omega
      have e2 : p' = p := by omega
      subst e1; subst e2
      refine ⟨?_, ?_, ?_⟩
      · intro hk
        rw [bsP_ks, if_pos rfl] at hk
        exact absurd hk (by decide)
      · intro m hm
        obtain ⟨m1, m2⟩ := (i8 i' p' hi' hc').2.1 m hm
        refine ⟨?_, Or.inr (Or.inl (by rw [bsP_ks, if_pos rfl]))⟩
        rcases m1 with ⟨ho, _⟩ | m1
        · rcases hg with hg | hg
          · have hm2 : dg s (40 * i' + p') = some m := hm
            rw [hg.1] at hm2; exact absurd hm2 (by simp)
          · exact absurd ho hg.2
        · exact Or.inr m1
      · intro h1 h2
        rcases hg with hg | hg
        · rcases h1 with h1 | h1
          · exact absurd h1 hg.2.1
          · exact absurd h1 hg.2.2
        · exact absurd h2 hg.1
    · refine bCel_up hb u hp' hc' he (fun h => h) ?_ (i8 i' p' hi' hc')
      intro hs
      refine ⟨?_, fun _ _ _ h => h⟩
      intro q q1 q2
      refine ⟨?_, fun h => h⟩
      intro q3 heq
      have hq := bKid_lt DT' q1
      have e1 : i' = i := by omega
      have e2 : q = p := by omega
      subst e1; subst e2
      rw [← q2] at hs
      exact hpar q3 (by rw [q2]; exact hc') hs
  · obtain ⟨k1, k2, k3, k4, k5⟩ := K
    have hnm : (40 * i + p) ∉ sk := fun h => by
      have := (k4 _ h).1; rw [h0] at this; exact absurd this (by decide)
    refine ⟨?_, ⟨?_, bSk_push (Nat.le_refl _) k2⟩, List.nodup_cons.mpr ⟨hnm, k3⟩, ?_, ?_⟩
    · rw [bsP_s, if_pos rfl]; rfl
    · rw [bsP_11, if_pos rfl]
    · intro x hx
      rcases List.mem_cons.mp hx with hx | hx
      · subst hx
        exact ⟨by rw [bsP_ks, if_pos rfl], Or.inr ⟨i, p, rfl, hi, hc⟩⟩
      · have : x ≠ 40 * i + p := fun h => hnm (h ▸ hx)
        refine ⟨by rw [bsP_ks, if_neg this]; exact (k4 x hx).1, (k4 x hx).2⟩
    · intro i' p' hi' hc' hs
      by_cases he : 40 * i' + p' = 40 * i + p
      · rw [he]; exact List.mem_cons_self ..
      · rw [bsP_ks, if_neg he] at hs
        exact List.mem_cons_of_mem _ (k5 i' p' hi' hc' hs)

-- what only the frames, the registers, the page and the end see
def bSame (Q : Nat → Prop) (s s' : zD) : Prop := s'.2.2 = s.2.2
  ∧ ((dk s').1 2 = (dk s).1 2 ∧ (dk s').1 3 = (dk s).1 3 ∧ (dk s').1 4 = (dk s).1 4 ∧ (dk s').2.2 = (dk s).2.2 ∧ (∀ b, 5 ≤ b → b ≤ 7 → (dk s').2.1 b = (dk s).2.1 b) ∧ (∀ c, dg s c ≠ none → (dk s').2.1 8 c = (dk s).2.1 8 c) ∧ (∀ c, ¬ Q c → (dk s').2.1 9 c = (dk s).2.1 9 c ∧ (dk s').2.1 10 c = (dk s).2.1 10 c))
  ∧ ((dm s').1 15 = (dm s).1 15 ∧ (dm s').1 16 = (dm s).1 16 ∧ (dm s').1 17 = (dm s).1 17 ∧ (dm s').1 19 = (dm s).1 19 ∧ (dm s').1 20 = (dm s).1 20
    ∧ (∀ b, 18 ≤ b → b ≤ 36 → b ≠ 33 → (dm s').2 b = (dm s).2 b) ∧ ∀ j, j < dnc s → (dm s').2 33 j = (dm s).2 33 j)
theorem bNK_same {S : zG} {dfs : Nat → Option Nat} {s s' : zD} {Q : Nat → Prop} (h : bSame Q s s') {m : Int} {k v : Int32} (H : bNK S dfs s m k v) : bNK S dfs s' m k v := by
  obtain ⟨h1, h2, h3, h4, h5, h6, h7, h8⟩ := h
  unfold bNK at *
  have e : dnp s' = dnp s := by show s'.2.2.2.2.2.2.2.2.2.1 = _; rw [h1]
  rw [e, h8.1 28 (by omega) (by omega) (by omega), h8.1 31 (by omega) (by omega) (by omega), h8.1 32 (by omega) (by omega) (by omega)]
  exact H
theorem bUp_same {S : zG} {dfs : Nat → Option Nat} {s s' : zD} {Q : Nat → Prop} (h : bSame Q s s') (hz : ∀ k, k < dnb s → ∃ z : Int, (dm s).2 36 k = hz_n z ∧ -1 ≤ z ∧ z < k) :
    bUp S dfs s s' (fun _ => False) (fun _ => False) (fun _ => False) Q := by
  have h0 := h
  obtain ⟨h1, ⟨a1, a2, a3, a4, a5, a8, a9⟩, b1, b2, b3, b4, b5, b6⟩ := h
  have eg : dg s' = dg s := by show s'.2.2.1 = _; rw [h1]
  have ea : da s' = da s := by show s'.2.2.2.1 = _; rw [h1]
  have ew : dw s' = dw s := by show s'.2.2.2.2.1 = _; rw [h1]
  have ed : dd s' = dd s := by show s'.2.2.2.2.2.1 = _; rw [h1]
  have et : dt s' = dt s := by show s'.2.2.2.2.2.2.1 = _; rw [h1]
  have el : dl s' = dl s := by show s'.2.2.2.2.2.2.2.1 = _; rw [h1]
  have ee : de s' = de s := by show s'.2.2.2.2.2.2.2.2.1 = _; rw [h1]
  have en : dnp s' = dnp s := by show s'.2.2.2.2.2.2.2.2.2.1 = _; rw [h1]
  have ec : dnc s' = dnc s := by show s'.2.2.2.2.2.2.2.2.2.2.1 = _; rw [h1]
  have eb : dnb s' = dnb s := by show s'.2.2.2.2.2.2.2.2.2.2.2 = _; rw [h1]
  refine ⟨⟨⟨?_, ?_, ?_⟩, ⟨?_, ?_⟩, ⟨?_, ?_⟩, ⟨?_, ?_⟩, hz⟩, ?_, ?_, ?_, fun _ h => h.elim, ?_, ?_, fun _ _ _ => bNK_same h0⟩
  · intro c m; rw [eg]; exact id
  · intro c m; rw [ed]; exact id
  · exact a8
  · rw [ec]; exact Nat.le_refl _
  · exact b6.2
  · rw [eb]; exact Nat.le_refl _
  · intro j _; rw [b6.1 34 (by omega) (by omega) (by omega), b6.1 35 (by omega) (by omega) (by omega), b6.1 36 (by omega) (by omega) (by omega)]; exact ⟨rfl, rfl, rfl⟩
  · rw [ee]; exact Nat.le_refl _
  · intro i _; rw [el]
  · intro c _
    refine ⟨?_, fun _ => ?_, fun hq => a9 c hq⟩
    · show (dk s').2.1 6 c = _; rw [a5 6 (by omega) (by omega)]
    · show (dk s').2.1 7 c = _; rw [a5 7 (by omega) (by omega)]
  · intro c _; rw [eg, ea, ew]; exact ⟨rfl, fun _ => rfl, rfl⟩
  · intro c _; rw [ed]
  · intro q _; rw [et, b6.1 28 (by omega) (by omega) (by omega), b6.1 29 (by omega) (by omega) (by omega), b6.1 30 (by omega) (by omega) (by omega)]; exact ⟨rfl, rfl, fun _ => rfl, fun _ _ => rfl⟩
  · rw [en]; exact Nat.le_refl _
theorem bInv_same {E : Nat → Option zT} {dfs : Nat → Option Nat} {ST : Nat → Nat → Int32} {F l0 am : Nat} {S : zG} {s s' : zD} (st : bSta E dfs ST F S) (I : bInv S dfs ST l0 am s) {Q : Nat → Prop} (h : bSame Q s s') : bInv S dfs ST l0 am s' := by
  have D := bDefs_of st I
  obtain ⟨i1, i2, i3, i4, i5, i6, i7, i8⟩ := id I
  have u := bUp_same (S := S) (dfs := dfs) h i7
  have hb : dnb s ≤ 950 := i2.2.2.2.2.2.2.2.2.2.2.2.2.2
  obtain ⟨h1, ⟨a1, a2, a3, a4, a5, a8, a9⟩, b1, b2, b3, b4, b5, b6⟩ := h
  have eg : dg s' = dg s := by show s'.2.2.1 = _; rw [h1]
  have ed : dd s' = dd s := by show s'.2.2.2.2.2.1 = _; rw [h1]
  have el : dl s' = dl s := by show s'.2.2.2.2.2.2.2.1 = _; rw [h1]
  have ee : de s' = de s := by show s'.2.2.2.2.2.2.2.2.1 = _; rw [h1]
  have en : dnp s' = dnp s := by show s'.2.2.2.2.2.2.2.2.2.1 = _; rw [h1]
  have ec : dnc s' = dnc s := by show s'.2.2.2.2.2.2.2.2.2.2.1 = _; rw [h1]
  have eb : dnb s' = dnb s := by show s'.2.2.2.2.2.2.2.2.2.2.2 = _; rw [h1]
  refine ⟨⟨?_, ?_⟩, ?_, ?_, ?_, ?_, ?_, ?_, ?_⟩
  · intro k k1 k2; rw [b6.1 k (by omega) (by omega) (by omega)]; exact i1.1 k k1 k2
  · rw [a4]; exact i1.2
  · rw [a1, a2, a3, b1, b2, b3, b4, b5, ee, en, ec, eb]; exact i2
  · rw [ee, el, a4]; exact i3
  · have e6 : ∀ c, ks s' c = ks s c := fun c => by show (dk s').2.1 6 c = _; rw [a5 6 (by omega) (by omega)]
    rw [ee, el, en, eg, a5 5 (by omega) (by omega), b6.1 32 (by omega) (by omega) (by omega)]
    simp only [e6]
    exact i4
  · rw [ee, el, eg]; exact i5
  · intro c t
    rw [ee, el, ed]
    show _ → (dk s').2.1 7 c = _ ∧ _
    rw [a5 7 (by omega) (by omega)]; exact i6 c t
  · rw [eb, b6.1 36 (by omega) (by omega) (by omega)]; exact i7
  · intro i p hi hc
    rw [ee] at hi
    rw [el] at hc ⊢
    obtain ⟨T, DT⟩ := D i hi
    exact bCel_up hb u (bKid_lt DT hc) hc id id (fun _ => ⟨fun _ _ _ => ⟨fun _ => id, id⟩, fun _ _ _ => id⟩) (i8 i p hi hc)
theorem bSk_same {s s' : zD} (h : (dk s').2.1 11 = (dk s).2.1 11) : ∀ {sk : List Nat}, bSk s sk → bSk s' sk
  | [], _ => trivial
  | x :: r, H => ⟨by rw [h]; exact H.1, bSk_same h H.2⟩
theorem bStk_same {S : zG} {s s' : zD} {sk : List Nat} {Q : Nat → Prop} (h : bSame Q s s') (h11 : (dk s').2.1 11 = (dk s).2.1 11) (h1 : (dk s').1 1 = (dk s).1 1) (K : bStk S s sk) : bStk S s' sk := by
  obtain ⟨k1, k2, k3, k4, k5⟩ := K
  have el : dl s' = dl s := by show s'.2.2.2.2.2.2.2.1 = _; rw [h.1]
  have ee : de s' = de s := by show s'.2.2.2.2.2.2.2.2.1 = _; rw [h.1]
  have e6 : (dk s').2.1 6 = (dk s).2.1 6 := h.2.1.2.2.2.2.1 6 (by omega) (by omega)
  refine ⟨by rw [h1]; exact k1, bSk_same h11 k2, k3, ?_, ?_⟩
  · intro c hc
    rw [ee, el]
    show (dk s').2.1 6 c = _ ∧ _
    rw [e6]; exact k4 c hc
  · intro i p
    rw [ee, el]
    show _ → _ → (dk s').2.1 6 _ = _ → _
    rw [e6]; exact k5 i p

-- an own promise is begun
def bsO (s : zD) (c n q : Nat) : zD := (kPush (dk s) c n, mA (dm s) 28 q (hz_n 1), s.2.2)
theorem bsO_m (s : zD) (c n q b x : Nat) : (dm (bsO s c n q)).2 b x = if b = 28 then (if x = q then hz_n 1 else (dm s).2 28 x) else (dm s).2 b x := mA2 _ _ _ _ _ _
theorem bsO_mn (s : zD) (c n q b : Nat) (h : b ≠ 28) : (dm (bsO s c n q)).2 b = (dm s).2 b := mA2n _ _ _ _ _ h
theorem bsO_ks (s : zD) (c n q x : Nat) : ks (bsO s c n q) x = if x = c then hz_n 1 else ks s x := bsP_ks s c n 0 x
theorem bsO_kv (s : zD) (c n q x : Nat) : kv (bsO s c n q) x = kv s x := bsP_kv s c n 0 x
theorem bNK_ne {S : zG} {dfs : Nat → Option Nat} {s s' : zD} {q : Nat} (hp : dnp s ≤ dnp s') (h0 : (dm s).2 28 q = hz_n 0 ∨ (dm s).2 28 q = hz_n 1) (h28 : ∀ x, x < dnp s → x ≠ q → (dm s').2 28 x = (dm s).2 28 x) (h31 : ∀ x, x < dnp s → x ≠ q → (dm s').2 31 x = (dm s).2 31 x)
    (h32 : ∀ l z, (dm s).2 32 l = hz_n (z : Nat) → z < dnp s → (dm s').2 32 l = hz_n (z : Nat)) {m : Int} {k v : Int32} (H : bNK S dfs s m k v) : bNK S dfs s' m k v := by
  have key : ∀ z : Nat, z ≤ 3 → (dm s).2 28 q ≠ hz_n (2 + (z : Int)) := by
    intro z hz e
    rcases h0 with h0 | h0
    · rw [h0] at e; have := zn_inj (by omega) (by omega) e; omega
    · rw [h0] at e; have := zn_inj (by omega) (by omega) e; omega
  rcases H with ⟨a1, a2, z, a3, a4, a5, a6⟩ | H | H | ⟨l, a1, a2, a3, H⟩
  · have hne : m.toNat ≠ q := fun e => key z a3 (by rw [← e]; exact a5)
    refine Or.inl ⟨a1, by omega, z, a3, a4, ?_, ?_⟩
    · rw [h28 _ a2 hne]; exact a5
    · rw [h31 _ a2 hne]; exact a6
  · exact Or.inr (Or.inl H)
  · exact Or.inr (Or.inr (Or.inl H))
  · refine Or.inr (Or.inr (Or.inr ⟨l, a1, a2, a3, ?_⟩))
    rcases H with H | ⟨b1, q', z, b2, b3, b4, b5, b6, b7⟩
    · exact Or.inl H
    · have hne : q' ≠ q := fun e => key z b4 (by rw [← e]; exact b6)
      refine Or.inr ⟨b1, q', z, h32 _ _ b2 b3, by omega, b4, b5, ?_, ?_⟩
      · rw [h28 _ b3 hne]; exact b6
      · rw [h31 _ b3 hne]; exact b7
theorem bO_up {S : zG} {dfs : Nat → Option Nat} {s : zD} {c n q : Nat} (hq : q < dnp s) (ht : dt s q = c) (h0 : (dm s).2 28 q = hz_n 0) (hz : ∀ k, k < dnb s → ∃ z : Int, (dm s).2 36 k = hz_n z ∧ -1 ≤ z ∧ z < k) :
    bUp S dfs s (bsO s c n q) (· = c) (fun _ => False) (fun _ => False) (fun _ => False) := by
  refine ⟨⟨⟨fun _ _ h => h, fun _ _ h => h, fun x _ => bsP_k s c n 0 8 x (by simp)⟩, ⟨Nat.le_refl _, fun j _ => by rw [bsO_mn _ _ _ _ _ (by decide)]⟩, ⟨Nat.le_refl _, fun j _ => by rw [bsO_mn _ _ _ _ _ (by decide), bsO_mn _ _ _ _ _ (by decide), bsO_mn _ _ _ _ _ (by decide)]; exact ⟨rfl, rfl, rfl⟩⟩, ⟨Nat.le_refl _, fun _ _ => rfl⟩, hz⟩, ?_, fun x _ => ⟨rfl, fun _ => rfl, rfl⟩, fun _ _ => rfl, fun _ h => h.elim, ?_, Nat.le_refl _, ?_⟩
  · intro x hx
    refine ⟨?_, fun _ => bsP_kv s c n 0 x, fun _ => ⟨?_, ?_⟩⟩
    · rw [bsO_ks, if_neg hx]
    · have := bsP_9 s c n 0 x; rw [if_neg hx] at this; exact this
    · have := bsP_10 s c n 0 x; rw [if_neg hx] at this; exact this
  · intro x _
    refine ⟨rfl, by rw [bsO_mn _ _ _ _ _ (by decide)], ?_, fun _ _ => by rw [bsO_mn _ _ _ _ _ (by decide)]⟩
    intro hx
    rw [bsO_m, if_pos rfl, if_neg]
    intro e; subst e; exact hx ht
  · intro m k v
    refine bNK_ne (s := s) (s' := bsO s c n q) (q := q) (Nat.le_refl _) (Or.inl h0) ?_ ?_ ?_
    · intro x _ hx; rw [bsO_m, if_pos rfl, if_neg hx]
    · intro x _ _; rw [bsO_mn _ _ _ _ _ (by decide)]
    · intro l z h _; rw [bsO_mn _ _ _ _ _ (by decide)]; exact h
theorem bPushO {E : Nat → Option zT} {dfs : Nat → Option Nat} {ST : Nat → Nat → Int32} {F l0 am : Nat} {S : zG} {s : zD} {sk : List Nat} (st : bSta E dfs ST F S) (I : bInv S dfs ST l0 am s) (K : bStk S s sk)
    {i p q : Nat} (hi : i < de s) (hc : s_cl S (dl s i) p = 1) (h0 : ks s (40 * i + p) = hz_n 0) (ho : bOwn S (dl s i) p) (hg : dg s (40 * i + p) = some (q : Int)) :
    bInv S dfs ST l0 am (bsO s (40 * i + p) sk.length q) ∧ bStk S (bsO s (40 * i + p) sk.length q) ((40 * i + p) :: sk) ∧ bUp S dfs s (bsO s (40 * i + p) sk.length q) (· = 40 * i + p) (fun _ => False) (fun _ => False) (fun _ => False) := by
  have D := bDefs_of st I
  obtain ⟨T, DT⟩ := D i hi
  have hp := bKid_lt DT hc
  obtain ⟨i1, i2, i3, i4, i5, i6, i7, i8⟩ := id I
  have hb : dnb s ≤ 950 := i2.2.2.2.2.2.2.2.2.2.2.2.2.2
  obtain ⟨M1, M2⟩ := (i8 i p hi hc).2.1 _ hg
  have hq : q < dnp s ∧ dt s q = 40 * i + p ∧ (dm s).2 28 q = hz_n 0 := by
    rcases M1 with ⟨_, q', e, m1, m2, _, _, _, m3, _⟩ | ⟨m1, m2, _⟩
    · have : q' = q := by omega
      subst this
      exact ⟨m1, m2, m3 h0⟩
    · rcases ho with ho | ho | ho <;> omega
  have u := bO_up (S := S) (dfs := dfs) (s := s) (c := 40 * i + p) (n := sk.length) hq.1 hq.2.1 hq.2.2 i7
  refine ⟨⟨⟨?_, i1.2⟩, ?_, i3, ?_, i5, ?_, ?_, ?_⟩, ?_, u⟩
  · intro k k1 k2; rw [bsO_mn _ _ _ _ _ (by omega)]; exact i1.1 k k1 k2
  · obtain ⟨a1, a2, a3, a4, a5, a6, a7, a8⟩ := i2
    have e := bsP_s s (40 * i + p) sk.length 0
    refine ⟨?_, a2, ?_, a4, a5, a6, ?_, a8⟩
    · show (dk (bsP s _ _ 0)).1 4 = _; rw [e, if_neg (by decide)]; exact a1
    · show (dk (bsP s _ _ 0)).1 3 = _; rw [e, if_neg (by decide)]; exact a3
    · show (dk (bsP s _ _ 0)).1 2 = _; rw [e, if_neg (by decide)]; exact a7
  · intro l hl
    have e : (dk (bsO s (40 * i + p) sk.length q)).2.1 5 l = (dk s).2.1 5 l := bsP_k s _ _ 0 5 _ (by simp)
    rw [e, bsO_mn _ _ _ _ _ (by decide)]
    rcases i4 l hl with h | ⟨y1, i', q, y2, y3, y4, y5, y6, y7, y8, y9⟩
    · exact Or.inl h
    · refine Or.inr ⟨y1, i', q, y2, y3, y4, y5, y6, y7, y8, ?_⟩
      rw [bsO_ks]
      split
      · decide
      · exact y9
  · intro x t hx
    rw [bsO_kv]; exact i6 x t hx
  · rw [bsO_mn _ _ _ _ _ (by decide)]; exact i7
  · intro i' p' hi' hc'
    obtain ⟨T', DT'⟩ := D i' hi'
    have hp' := bKid_lt DT' hc'
    by_cases he : 40 * i' + p' = 40 * i + p
    · have e1 : i' = i := by omega
      have e2 : p' = p := by omega
      subst e1; subst e2
      refine ⟨?_, ?_, fun _ h => absurd h (by show dg s _ ≠ none; rw [hg]; simp)⟩
      · intro hk
        rw [bsO_ks, if_pos rfl] at hk
        exact absurd hk (by decide)
      · intro m hm
        have hm2 : dg s (40 * i' + p') = some m := hm
        have em : m = (q : Int) := by rw [hg] at hm2; exact (Option.some.inj hm2).symm
        subst em
        refine ⟨?_, Or.inr (Or.inl (by rw [bsO_ks, if_pos rfl]))⟩
        rcases M1 with ⟨_, q', e, m1, m2, m3, m4, m5, m6, m7⟩ | ⟨m1, m2, _⟩
        · have : q' = q := by omega
          subst this
          refine Or.inl ⟨ho, q', rfl, m1, m2, ?_, ?_, bEnv_mono hb u.1 m5, ?_, ?_⟩
          · rw [bsO_mn _ _ _ _ _ (by decide)]; exact m3
          · rw [bsO_mn _ _ _ _ _ (by decide)]; exact m4
          · intro hk; rw [bsO_ks, if_pos rfl] at hk; exact absurd hk (by decide)
          · intro _; rw [bsO_m, if_pos rfl, if_pos rfl]
        · exact Or.inr (by rcases ho with ho | ho | ho <;> omega)
    · refine bCel_up hb u hp' hc' he (fun h => h) ?_ (i8 i' p' hi' hc')
      intro hs
      refine ⟨?_, fun _ _ _ h => h⟩
      intro x x1 x2
      refine ⟨?_, fun h => h⟩
      intro x3 heq
      have hq := bKid_lt DT' x1
      have e1 : i' = i := by omega
      have e2 : x = p := by omega
      subst e1; subst e2
      rcases ho with ho | ho | ho <;> omega
  · obtain ⟨k1, k2, k3, k4, k5⟩ := K
    have hnm : (40 * i + p) ∉ sk := fun h => by
      have := (k4 _ h).1; rw [h0] at this; exact absurd this (by decide)
    refine ⟨?_, ⟨?_, bSk_same (s := bsP s (40 * i + p) sk.length 0) (s' := bsO s (40 * i + p) sk.length q) rfl (bSk_push (a := 0) (c := 40 * i + p) (Nat.le_refl _) k2)⟩, List.nodup_cons.mpr ⟨hnm, k3⟩, ?_, ?_⟩
    · have e := bsP_s s (40 * i + p) sk.length 0 1
      rw [if_pos rfl] at e; exact e
    · have e := bsP_11 s (40 * i + p) sk.length 0 sk.length
      rw [if_pos rfl] at e; exact e
    · intro x hx
      rcases List.mem_cons.mp hx with hx | hx
      · subst hx
        exact ⟨by rw [bsO_ks, if_pos rfl], Or.inr ⟨i, p, rfl, hi, hc⟩⟩
      · have : x ≠ 40 * i + p := fun h => hnm (h ▸ hx)
        refine ⟨by rw [bsO_ks, if_neg this]; exact (k4 x hx).1, (k4 x hx).2⟩
    · intro i' p' hi' hc' hs
      by_cases he : 40 * i' + p' = 40 * i + p
      · rw [he]; exact List.mem_cons_self ..
      · rw [bsO_ks, if_neg he] at hs
        exact List.mem_cons_of_mem _ (k5 i' p' hi' hc' hs)

-- the top is kept
def bsK (s : zD) (c n : Nat) (x v : Int32) (μ : zM) : zD := (kKeep (dk s) c n x v, μ, s.2.2)
theorem bsK_k (s : zD) (c n : Nat) (x v : Int32) (μ : zM) (b y : Nat) (h : b ≠ 6) (h' : b ≠ 7) : (dk (bsK s c n x v μ)).2.1 b y = (dk s).2.1 b y := by
  show (kKeep (dk s) c n x v).2.1 b y = _
  unfold kKeep; simp only [kS2, kA2]; simp [h, h']
theorem bsK_ks (s : zD) (c n : Nat) (x v : Int32) (μ : zM) (y : Nat) : ks (bsK s c n x v μ) y = if y = c then x else ks s y := by
  show (kKeep (dk s) c n x v).2.1 6 y = _
  unfold kKeep; simp only [kS2, kA2]; simp
theorem bsK_kv (s : zD) (c n : Nat) (x v : Int32) (μ : zM) (y : Nat) : kv (bsK s c n x v μ) y = if y = c then v else kv s y := by
  show (kKeep (dk s) c n x v).2.1 7 y = _
  unfold kKeep; simp only [kS2, kA2]; simp
theorem bsK_s (s : zD) (c n : Nat) (x v : Int32) (μ : zM) (y : Nat) : (dk (bsK s c n x v μ)).1 y = if y = 1 then hz_n n else (dk s).1 y := by
  show (kKeep (dk s) c n x v).1 y = _
  unfold kKeep; simp only [kS1, kA1]
-- how the reference's side may change as the cell c is kept
def bKm (s : zD) (c : Nat) (μ : zM) : Prop := μ.1 = (dm s).1 ∧ (∀ b, b ≠ 28 → b ≠ 31 → μ.2 b = (dm s).2 b) ∧ (∀ q, q < dnp s → dt s q ≠ c → μ.2 28 q = (dm s).2 28 q ∧ μ.2 31 q = (dm s).2 31 q)
theorem bK_up {S : zG} {dfs : Nat → Option Nat} {s : zD} {c n : Nat} {x v : Int32} {μ : zM} (hm : bKm s c μ) (hnk : ∀ m k v', bNK S dfs s m k v' → bNK S dfs (bsK s c n x v μ) m k v') (hz : ∀ k, k < dnb s → ∃ z : Int, (dm s).2 36 k = hz_n z ∧ -1 ≤ z ∧ z < k) :
    bUp S dfs s (bsK s c n x v μ) (· = c) (fun _ => False) (fun _ => False) (fun _ => False) := by
  obtain ⟨m1, m2, m3⟩ := hm
  refine ⟨⟨⟨fun _ _ h => h, fun _ _ h => h, fun y _ => bsK_k s c n x v μ 8 y (by decide) (by decide)⟩, ⟨Nat.le_refl _, fun j _ => ?_⟩, ⟨Nat.le_refl _, fun j _ => ?_⟩, ⟨Nat.le_refl _, fun _ _ => rfl⟩, hz⟩, ?_, fun x _ => ⟨rfl, fun _ => rfl, rfl⟩, fun _ _ => rfl, fun _ h => h.elim, ?_, Nat.le_refl _, hnk⟩
  · show μ.2 33 j = _; rw [m2 33 (by decide) (by decide)]
  · show μ.2 34 j = _ ∧ μ.2 35 j = _ ∧ μ.2 36 j = _
    rw [m2 34 (by decide) (by decide), m2 35 (by decide) (by decide), m2 36 (by decide) (by decide)]; exact ⟨rfl, rfl, rfl⟩
  · intro y hy
    refine ⟨?_, fun _ => ?_, fun _ => ⟨bsK_k s c n x v μ 9 y (by decide) (by decide), bsK_k s c n x v μ 10 y (by decide) (by decide)⟩⟩
    · rw [bsK_ks, if_neg hy]
    · rw [bsK_kv, if_neg hy]
  · intro q hq
    refine ⟨rfl, ?_, fun h => (m3 q hq h).1, fun _ _ => ?_⟩
    · show μ.2 29 q = _; rw [m2 29 (by decide) (by decide)]
    · show μ.2 30 q = _; rw [m2 30 (by decide) (by decide)]
theorem bSk_keep {s : zD} {c n : Nat} {x v : Int32} {μ : zM} {sk : List Nat} (H : bSk s sk) : bSk (bsK s c n x v μ) sk :=
  bSk_same (s := s) (s' := bsK s c n x v μ) (by funext y; exact bsK_k s c n x v μ 11 y (by decide) (by decide)) H
theorem bKeep {E : Nat → Option zT} {dfs : Nat → Option Nat} {ST : Nat → Nat → Int32} {F l0 am : Nat} {S : zG} {s : zD} {r : List Nat} (st : bSta E dfs ST F S) (I : bInv S dfs ST l0 am s) {c : Nat} (K : bStk S s (c :: r))
    {x v : Int32} {μ : zM} (hx : x ≠ hz_n 0 ∧ x ≠ hz_n 1) (hm : bKm s c μ) (hnk : ∀ m k v', bNK S dfs s m k v' → bNK S dfs (bsK s c r.length x v μ) m k v')
    (hv : ∀ m, dg s c = some m → ∃ k v', bNK S dfs (bsK s c r.length x v μ) m k v' ∧ bVR S dfs s x v k v') :
    bInv S dfs ST l0 am (bsK s c r.length x v μ) ∧ bStk S (bsK s c r.length x v μ) r ∧ bUp S dfs s (bsK s c r.length x v μ) (· = c) (fun _ => False) (fun _ => False) (fun _ => False) := by
  have D := bDefs_of st I
  obtain ⟨i1, i2, i3, i4, i5, i6, i7, i8⟩ := id I
  have hb : dnb s ≤ 950 := i2.2.2.2.2.2.2.2.2.2.2.2.2.2
  have u := bK_up (S := S) (dfs := dfs) (s := s) (c := c) (n := r.length) hm hnk i7
  obtain ⟨m1, m2, m3⟩ := id hm
  obtain ⟨k1, k2, k3, k4, k5⟩ := K
  have hkc := (k4 c (List.mem_cons_self ..)).1
  have hex := (k4 c (List.mem_cons_self ..)).2
  refine ⟨⟨⟨?_, i1.2⟩, ?_, i3, ?_, i5, ?_, ?_, ?_⟩, ?_, u⟩
  · intro k h1 h2; show μ.2 k = _; rw [m2 k (by omega) (by omega)]; exact i1.1 k h1 h2
  · obtain ⟨a1, a2, a3, a4, a5, a6, a7, a8, a9, a10, a11, a12⟩ := i2
    refine ⟨?_, ?_, ?_, ?_, a5, a6, ?_, a8, ?_, ?_, ?_, a12⟩
    · rw [bsK_s, if_neg (by decide)]; exact a1
    · show μ.1 20 = _; rw [m1]; exact a2
    · rw [bsK_s, if_neg (by decide)]; exact a3
    · show μ.1 19 = _; rw [m1]; exact a4
    · rw [bsK_s, if_neg (by decide)]; exact a7
    · show μ.1 15 = _; rw [m1]; exact a9
    · show μ.1 16 = _; rw [m1]; exact a10
    · show μ.1 17 = _; rw [m1]; exact a11
  · intro l hl
    rw [bsK_k _ _ _ _ _ _ 5 _ (by decide) (by decide)]
    show (_ ∧ μ.2 32 l = _) ∨ (_ ∧ ∃ i q : Nat, _ ∧ _ ∧ _ ∧ _ ∧ _ ∧ _ ∧ μ.2 32 l = _ ∧ _)
    rw [m2 32 (by decide) (by decide)]
    rcases i4 l hl with h | ⟨y1, i', q, y2, y3, y4, y5, y6, y7, y8, y9⟩
    · exact Or.inl h
    · refine Or.inr ⟨y1, i', q, y2, y3, y4, y5, y6, y7, y8, ?_⟩
      rw [bsK_ks]
      split
      · exact hx.1
      · exact y9
  · intro y t hy
    obtain ⟨e1, e2, i', p', e3, e4, e5⟩ := i6 y t hy
    have : y ≠ c := by
      intro e
      rcases hex with h | ⟨i, p, h1, h2, h3⟩
      · obtain ⟨T', DT'⟩ := D i' e4
        have := DT'.2.2.2.2.2.2.2.2.2.2.2.2.1 p' e5
        have := DT'.2.1
        have := i2.2.2.2.2.1; have := i2.2.2.2.2.2.1
        omega
      · obtain ⟨T', DT'⟩ := D i' e4
        obtain ⟨T, DT⟩ := D i h2
        have := DT'.2.2.2.2.2.2.2.2.2.2.2.2.1 p' e5
        have := DT'.2.1
        have := bKid_lt DT h3
        have x1 : i' = i := by omega
        have x2 : p' = p := by omega
        subst x1; subst x2
        rw [h3] at e5; exact absurd e5 (by decide)
    rw [bsK_kv, if_neg this]
    exact ⟨e1, e2, i', p', e3, e4, e5⟩
  · show ∀ k, _ → ∃ z : Int, μ.2 36 k = _ ∧ _
    rw [m2 36 (by decide) (by decide)]; exact i7
  · intro i' p' hi' hc'
    obtain ⟨T', DT'⟩ := D i' hi'
    have hp' := bKid_lt DT' hc'
    by_cases he : 40 * i' + p' = c
    · refine ⟨?_, ?_, ?_⟩
      · intro hk
        rw [bsK_ks, if_pos he] at hk
        exact absurd hk hx.1
      · intro m hm'
        have hm2 : dg s (40 * i' + p') = some m := hm'
        obtain ⟨M1, M2⟩ := (i8 i' p' hi' hc').2.1 m hm2
        refine ⟨?_, Or.inr (Or.inr ?_)⟩
        · rcases M1 with ⟨ho, q', e, a1, a2, a3, a4, a5, a6, a7⟩ | a
          · refine Or.inl ⟨ho, q', e, a1, a2, ?_, ?_, bEnv_mono hb u.1 a5, ?_, ?_⟩
            · show μ.2 29 q' = _; rw [m2 29 (by decide) (by decide)]; exact a3
            · show μ.2 30 q' = _; rw [m2 30 (by decide) (by decide)]; exact a4
            · intro hk; rw [bsK_ks, if_pos he] at hk; exact absurd hk hx.1
            · intro hk; rw [bsK_ks, if_pos he] at hk; exact absurd hk hx.2
          · exact Or.inr a
        · rw [bsK_ks, if_pos he, bsK_kv, if_pos he]
          obtain ⟨k, v', n1, n2⟩ := hv m (he ▸ hm2)
          exact ⟨k, v', n1, bVR_mono u.1 n2⟩
      · intro h1 h2
        have := (i8 i' p' hi' hc').2.2 h1 h2
        rw [he, hkc] at this; exact absurd this (by decide)
    · refine bCel_up hb u hp' hc' he (fun h => h) ?_ (i8 i' p' hi' hc')
      intro hs
      refine ⟨?_, fun _ _ _ h => h⟩
      intro y y1 y2
      refine ⟨?_, fun h => h⟩
      intro y3 heq
      have := (((i8 i' p' hi' hc').1 hs).1 y y1 y2).1 y3
      rw [heq, hkc] at this
      exact absurd this (by decide)
  · obtain ⟨n1, n2⟩ := List.nodup_cons.mp k3
    refine ⟨?_, bSk_keep k2.2, n2, ?_, ?_⟩
    · rw [bsK_s, if_pos rfl]
    · intro y hy
      have : y ≠ c := fun e => n1 (e ▸ hy)
      rw [bsK_ks, if_neg this]
      exact k4 y (List.mem_cons_of_mem _ hy)
    · intro i' p' hi' hc' hs
      by_cases he : 40 * i' + p' = c
      · rw [bsK_ks, if_pos he] at hs; exact absurd hs hx.2
      · rw [bsK_ks, if_neg he] at hs
        rcases List.mem_cons.mp (k5 i' p' hi' hc' hs) with h | h
        · exact absurd h he
        · exact h

-- a promise that is an atom: nothing is made
def bsA (s : zD) (c : Nat) (m : Int) (w : Nat) : zD := (dk s, dm s, (fun x => if x = c then some m else dg s x), da s, (fun x => if x = c then w else dw s x), s.2.2.2.2.2)
theorem bsA_g (s : zD) (c : Nat) (m : Int) (w x : Nat) : dg (bsA s c m w) x = if x = c then some m else dg s x := rfl
theorem bsA_w (s : zD) (c : Nat) (m : Int) (w x : Nat) : dw (bsA s c m w) x = if x = c then w else dw s x := rfl
theorem bA_up {S : zG} {dfs : Nat → Option Nat} {s : zD} {c w : Nat} {m : Int} (hg : dg s c = none) (hz : ∀ k, k < dnb s → ∃ z : Int, (dm s).2 36 k = hz_n z ∧ -1 ≤ z ∧ z < k) :
    bUp S dfs s (bsA s c m w) (fun _ => False) (· = c) (fun _ => False) (fun _ => False) := by
  refine ⟨⟨⟨?_, fun _ _ h => h, fun x _ => rfl⟩, ⟨Nat.le_refl _, fun _ _ => rfl⟩, ⟨Nat.le_refl _, fun _ _ => ⟨rfl, rfl, rfl⟩⟩, ⟨Nat.le_refl _, fun _ _ => rfl⟩, hz⟩, fun _ _ => ⟨rfl, fun _ => rfl, fun _ => ⟨rfl, rfl⟩⟩, ?_, fun _ _ => rfl, ?_, fun _ _ => ⟨rfl, rfl, fun _ => rfl, fun _ _ => rfl⟩, Nat.le_refl _, fun _ _ _ h => h⟩
  · intro x y h
    rw [bsA_g, if_neg]
    · exact h
    · intro e; rw [e, hg] at h; exact absurd h (by simp)
  · intro x hx
    rw [bsA_g, if_neg hx, bsA_w, if_neg hx]; exact ⟨rfl, fun _ => rfl, rfl⟩
  · intro x hx; rw [hx]; exact hg
theorem bMakeA {E : Nat → Option zT} {dfs : Nat → Option Nat} {ST : Nat → Nat → Int32} {F l0 am : Nat} {S : zG} {s : zD} (st : bSta E dfs ST F S) (I : bInv S dfs ST l0 am s)
    {i p w : Nat} {m : Int} (hi : i < de s) (hc : s_cl S (dl s i) p = 1) (hr : s_ro S (dl s i) p = 1) (ho : s_op S (dl s i) p < 5) (hg : dg s (40 * i + p) = none) (hm : -55 ≤ m ∧ m < 1000)
    (hpar : ks s (40 * i + s_pa S (dl s i) p) ≠ hz_n 0)
    (ha : (s_op S (dl s i) p = 1 ∧ ∃ t, dd s (40 * i + s_bi S (dl s i) p) = some t ∧ dg s t = some m ∧ dw s t < w) ∨ (s_op S (dl s i) p = 2 ∧ m = -1 - (s_vl S (dl s i) p : Int)) ∨ (s_op S (dl s i) p = 3 ∧ m = -30 - (s_vl S (dl s i) p : Int)) ∨ (s_op S (dl s i) p = 4 ∧ m = -20)) :
    bInv S dfs ST l0 am (bsA s (40 * i + p) m w) := by
  have D := bDefs_of st I
  obtain ⟨T, DT⟩ := D i hi
  have hp := bKid_lt DT hc
  obtain ⟨i1, i2, i3, i4, i5, i6, i7, i8⟩ := id I
  have hb : dnb s ≤ 950 := i2.2.2.2.2.2.2.2.2.2.2.2.2.2
  have u := bA_up (S := S) (dfs := dfs) (s := s) (c := 40 * i + p) (w := w) (m := m) hg i7
  refine ⟨i1, i2, i3, ?_, ?_, i6, i7, ?_⟩
  · intro l hl
    rcases i4 l hl with h | ⟨h1, i', q, h2, h3, h4, h5, h6, h7, h8⟩
    · exact Or.inl h
    · exact Or.inr ⟨h1, i', q, h2, h3, h4, h5, h6, u.1.1.1 _ _ h7, h8⟩
  · intro x y h
    rw [bsA_g] at h
    split at h
    · rename_i e
      rw [← Option.some.inj h]
      exact ⟨hm.1, hm.2, i, p, e, hi, hc⟩
    · exact i5 x y h
  · intro i' p' hi' hc'
    obtain ⟨T', DT'⟩ := D i' hi'
    have hp' := bKid_lt DT' hc'
    by_cases he : 40 * i' + p' = 40 * i + p
    · have e1 : i' = i := by omega
      have e2 : p' = p := by omega
      subst e1; subst e2
      obtain ⟨c1, c2, c3⟩ := i8 i' p' hi' hc'
      have k0 := c3 (Or.inl hr) hg
      refine ⟨?_, ?_, fun _ _ => k0⟩
      · intro hk
        obtain ⟨v1, v2⟩ := c1 hk
        refine ⟨fun q q1 q2 => ⟨(v1 q q1 q2).1, ?_⟩, v2⟩
        rw [bsA_g, if_neg]
        · exact (v1 q q1 q2).2
        · intro e
          have hq := bKid_lt DT q1
          have : q = p' := by omega
          have sh := bShop (bShp_of DT hc')
          subst this
          have h3 : ks s (40 * i' + q) = hz_n 0 := hk
          have q2' : s_pa S (dl s i') q = q := q2
          exact absurd h3 (by have h4 := hpar; rw [q2'] at h4; exact h4)
      · intro m' hm'
        rw [bsA_g, if_pos rfl] at hm'
        rw [← Option.some.inj hm']
        refine ⟨Or.inr ⟨hr, ho, ?_⟩, Or.inl k0⟩
        rcases ha with ⟨a1, t, a2, a3, a4⟩ | h
        · refine Or.inl ⟨a1, t, a2, u.1.1.1 _ _ a3, ?_⟩
          rw [bsA_w, bsA_w, if_pos rfl, if_neg]
          · exact a4
          · intro e; rw [e, hg] at a3; exact absurd a3 (by simp)
        · exact Or.inr h
    · refine bCel_up hb u hp' hc' id he ?_ (i8 i' p' hi' hc')
      intro hs
      refine ⟨?_, fun _ _ _ h => h⟩
      intro q q1 q2
      refine ⟨fun _ => id, ?_⟩
      intro e
      have hq := bKid_lt DT' q1
      have e1 : i' = i := by omega
      have e2 : q = p := by omega
      subst e1; subst e2
      rw [q2] at hpar
      exact hpar hs
-- a promise of its own
def bsM (s : zD) (c : Nat) (a : Int) (n : Nat) : zD :=
  (dk s, mS (mA (mA (mA (dm s) 28 (dnp s) (hz_n 0)) 29 (dnp s) (hz_n n)) 30 (dnp s) (hz_n a)) 15 (hz_n (dnp s + 1 : Nat)), (fun x => if x = c then some (dnp s : Int) else dg s x), (fun x => if x = c then a else da s x), dw s, dd s,
    (fun x => if x = dnp s then c else dt s x), dl s, de s, dnp s + 1, dnc s, dnb s)
theorem bsM_g (s : zD) (c : Nat) (a : Int) (n x : Nat) : dg (bsM s c a n) x = if x = c then some (dnp s : Int) else dg s x := rfl
theorem bsM_a (s : zD) (c : Nat) (a : Int) (n x : Nat) : da (bsM s c a n) x = if x = c then a else da s x := rfl
theorem bsM_t (s : zD) (c : Nat) (a : Int) (n x : Nat) : dt (bsM s c a n) x = if x = dnp s then c else dt s x := rfl
theorem bsM_m (s : zD) (c : Nat) (a : Int) (n b x : Nat) : (dm (bsM s c a n)).2 b x = if b = 30 then (if x = dnp s then hz_n a else (dm s).2 30 x) else if b = 29 then (if x = dnp s then hz_n n else (dm s).2 29 x) else if b = 28 then (if x = dnp s then hz_n 0 else (dm s).2 28 x) else (dm s).2 b x := by
  show (mS (mA (mA (mA (dm s) 28 (dnp s) (hz_n 0)) 29 (dnp s) (hz_n n)) 30 (dnp s) (hz_n a)) 15 (hz_n (dnp s + 1 : Nat))).2 b x = _
  simp only [mS2, mA2]
  by_cases h : b = 30
  · subst h; simp
  · by_cases h' : b = 29
    · subst h'; simp
    · simp [h, h']
theorem bsM_mn (s : zD) (c : Nat) (a : Int) (n b : Nat) (h : b ≠ 28) (h' : b ≠ 29) (h'' : b ≠ 30) : (dm (bsM s c a n)).2 b = (dm s).2 b := by
  funext x; rw [bsM_m]; simp [h, h', h'']
theorem bsM_ml (s : zD) (c : Nat) (a : Int) (n b x : Nat) (h : x ≠ dnp s) : (dm (bsM s c a n)).2 b x = (dm s).2 b x := by
  rw [bsM_m, if_neg h, if_neg h, if_neg h]
  split
  · rename_i e; rw [e]
  · split
    · rename_i e; rw [e]
    · split
      · rename_i e; rw [e]
      · rfl
theorem bM_up {S : zG} {dfs : Nat → Option Nat} {s : zD} {c n : Nat} {a : Int} (hg : dg s c = none) (hz : ∀ k, k < dnb s → ∃ z : Int, (dm s).2 36 k = hz_n z ∧ -1 ≤ z ∧ z < k) :
    bUp S dfs s (bsM s c a n) (fun _ => False) (· = c) (fun _ => False) (fun _ => False) := by
  refine ⟨⟨⟨?_, fun _ _ h => h, fun x _ => rfl⟩, ⟨Nat.le_refl _, fun j _ => by rw [bsM_mn _ _ _ _ _ (by decide) (by decide) (by decide)]⟩, ⟨Nat.le_refl _, fun j _ => by rw [bsM_mn _ _ _ _ _ (by decide) (by decide) (by decide), bsM_mn _ _ _ _ _ (by decide) (by decide) (by decide), bsM_mn _ _ _ _ _ (by decide) (by decide) (by decide)]; exact ⟨rfl, rfl, rfl⟩⟩, ⟨Nat.le_refl _, fun _ _ => rfl⟩, hz⟩, fun _ _ => ⟨rfl, fun _ => rfl, fun _ => ⟨rfl, rfl⟩⟩, ?_, fun _ _ => rfl, ?_, ?_, Nat.le_succ _, ?_⟩
  · intro x y h
    rw [bsM_g, if_neg]
    · exact h
    · intro e; rw [e, hg] at h; exact absurd h (by simp)
  · intro x hx
    rw [bsM_g, if_neg hx, bsM_a, if_neg hx]; exact ⟨rfl, fun _ => rfl, rfl⟩
  · intro x hx; rw [hx]; exact hg
  · intro q hq
    have : q ≠ dnp s := by omega
    rw [bsM_t, if_neg this, bsM_ml _ _ _ _ _ _ this, bsM_ml _ _ _ _ _ _ this, bsM_ml _ _ _ _ _ _ this]
    exact ⟨rfl, rfl, fun _ => rfl, fun _ _ => rfl⟩
  · intro m k v H
    rcases H with ⟨a1, a2, z, a3, a4, a5, a6⟩ | H | H | ⟨l, a1, a2, a3, H⟩
    · refine Or.inl ⟨a1, Nat.lt_succ_of_lt a2, z, a3, a4, ?_, ?_⟩
      · rw [bsM_ml _ _ _ _ _ _ (by omega)]; exact a5
      · rw [bsM_ml _ _ _ _ _ _ (by omega)]; exact a6
    · exact Or.inr (Or.inl H)
    · exact Or.inr (Or.inr (Or.inl H))
    · refine Or.inr (Or.inr (Or.inr ⟨l, a1, a2, a3, ?_⟩))
      rcases H with H | ⟨b1, q', z, b2, b3, b4, b5, b6, b7⟩
      · exact Or.inl H
      · refine Or.inr ⟨b1, q', z, ?_, Nat.lt_succ_of_lt b3, b4, b5, ?_, ?_⟩
        · rw [bsM_mn _ _ _ _ _ (by decide) (by decide) (by decide)]; exact b2
        · rw [bsM_ml _ _ _ _ _ _ (by omega)]; exact b6
        · rw [bsM_ml _ _ _ _ _ _ (by omega)]; exact b7
theorem bMakeN {E : Nat → Option zT} {dfs : Nat → Option Nat} {ST : Nat → Nat → Int32} {F l0 am : Nat} {S : zG} {s : zD} (st : bSta E dfs ST F S) (I : bInv S dfs ST l0 am s)
    {i p : Nat} {a : Int} (hi : i < de s) (hc : s_cl S (dl s i) p = 1) (ho : bOwn S (dl s i) p) (hg : dg s (40 * i + p) = none) (hk0 : ks s (40 * i + p) = hz_n 0) (hn : dnp s < 1000)
    (hpar : s_cl S (dl s i) (s_pa S (dl s i) p) = 1 → ks s (40 * i + s_pa S (dl s i) p) ≠ hz_n 0)
    (he : bEnv S (bsM s (40 * i + p) a (40 * dl s i + s_nd S (dl s i) p)) i (dl s i) p a) :
    bInv S dfs ST l0 am (bsM s (40 * i + p) a (40 * dl s i + s_nd S (dl s i) p)) := by
  have D := bDefs_of st I
  obtain ⟨T, DT⟩ := D i hi
  have hp := bKid_lt DT hc
  obtain ⟨i1, i2, i3, i4, i5, i6, i7, i8⟩ := id I
  have hb : dnb s ≤ 950 := i2.2.2.2.2.2.2.2.2.2.2.2.2.2
  have u := bM_up (S := S) (dfs := dfs) (s := s) (c := 40 * i + p) (a := a) (n := 40 * dl s i + s_nd S (dl s i) p) hg i7
  refine ⟨⟨?_, i1.2⟩, ?_, i3, ?_, ?_, i6, ?_, ?_⟩
  · intro k k1 k2; rw [bsM_mn _ _ _ _ _ (by omega) (by omega) (by omega)]; exact i1.1 k k1 k2
  · obtain ⟨a1, a2, a3, a4, a5, a6, a7, a8, a9, a10, a11, a12, a13⟩ := i2
    exact ⟨a1, a2, a3, a4, a5, a6, a7, a8, rfl, a10, a11, hn, a13⟩
  · intro l hl
    rw [bsM_mn _ _ _ _ _ (by decide) (by decide) (by decide)]
    rcases i4 l hl with h | ⟨h1, i', q, h2, h3, h4, h5, h6, h7, h8⟩
    · exact Or.inl h
    · exact Or.inr ⟨h1, i', q, h2, h3, h4, Nat.lt_succ_of_lt h5, h6, u.1.1.1 _ _ h7, h8⟩
  · intro x y h
    rw [bsM_g] at h
    split at h
    · rename_i e
      rw [← Option.some.inj h]
      exact ⟨by omega, by omega, i, p, e, hi, hc⟩
    · exact i5 x y h
  · rw [bsM_mn _ _ _ _ _ (by decide) (by decide) (by decide)]; exact i7
  · intro i' p' hi' hc'
    obtain ⟨T', DT'⟩ := D i' hi'
    have hp' := bKid_lt DT' hc'
    by_cases hee : 40 * i' + p' = 40 * i + p
    · have e1 : i' = i := by omega
      have e2 : p' = p := by omega
      subst e1; subst e2
      obtain ⟨c1, c2, c3⟩ := i8 i' p' hi' hc'
      refine ⟨?_, ?_, fun _ _ => hk0⟩
      · intro hk
        obtain ⟨v1, v2⟩ := c1 hk
        refine ⟨fun q q1 q2 => ⟨(v1 q q1 q2).1, ?_⟩, v2⟩
        rw [bsM_g, if_neg]
        · exact (v1 q q1 q2).2
        · intro e
          have hq := bKid_lt DT q1
          have : q = p' := by omega
          subst this
          have q2' : s_pa S (dl s i') q = q := q2
          rw [q2'] at hpar
          exact hpar hc' hk0
      · intro m' hm'
        rw [bsM_g, if_pos rfl] at hm'
        rw [← Option.some.inj hm']
        refine ⟨Or.inl ⟨ho, dnp s, rfl, Nat.lt_succ_self _, ?_, ?_, ?_, ?_, ?_, ?_⟩, Or.inl hk0⟩
        · rw [bsM_t, if_pos rfl]
        · rw [bsM_m, if_neg (by decide), if_pos rfl, if_pos rfl]; rfl
        · rw [bsM_m, bsM_a]; simp
        · rw [bsM_a, if_pos rfl]; exact he
        · intro _; rw [bsM_m]; simp
        · intro h
          have h2 : ks s (40 * i' + p') = hz_n 1 := h
          rw [hk0] at h2; exact absurd h2 (by decide)
    · refine bCel_up hb u hp' hc' id hee ?_ (i8 i' p' hi' hc')
      intro hs
      refine ⟨?_, fun _ _ _ h => h⟩
      intro q q1 q2
      refine ⟨fun _ => id, ?_⟩
      intro e
      have hq := bKid_lt DT' q1
      have e1 : i' = i := by omega
      have e2 : q = p := by omega
      subst e1; subst e2
      rw [q2] at hpar
      exact hpar hc' hs
theorem bMakeO {E : Nat → Option zT} {dfs : Nat → Option Nat} {ST : Nat → Nat → Int32} {F l0 am : Nat} {S : zG} {s : zD} (st : bSta E dfs ST F S) (I : bInv S dfs ST l0 am s)
    {i p : Nat} {a : Int} (hi : i < de s) (hc : s_cl S (dl s i) p = 1) (ho : bOwn S (dl s i) p) (hg : dg s (40 * i + p) = none) (hk0 : ks s (40 * i + p) = hz_n 0) (hn : dnp s < 1000)
    (hpar : s_cl S (dl s i) (s_pa S (dl s i) p) = 1 → ks s (40 * i + s_pa S (dl s i) p) ≠ hz_n 0)
    (he : bEnv S s i (dl s i) p a) :
    bInv S dfs ST l0 am (bsM s (40 * i + p) a (40 * dl s i + s_nd S (dl s i) p)) :=
  bMakeN st I hi hc ho hg hk0 hn hpar (bEnv_mono I.2.1.2.2.2.2.2.2.2.2.2.2.2.2.2 (bM_up (S := S) (dfs := dfs) hg I.2.2.2.2.2.2.1).1 he)

-- the reference binds or stores
def bsR (s : zD) (μ : zM) (nc nb : Nat) : zD := (dk s, μ, dg s, da s, dw s, dd s, dt s, dl s, de s, dnp s, nc, nb)
def bRm (s : zD) (μ : zM) (nc nb : Nat) : Prop := (dnc s ≤ nc ∧ nc ≤ 2600 ∧ dnb s ≤ nb ∧ nb ≤ 950)
  ∧ (μ.1 15 = (dm s).1 15 ∧ μ.1 19 = (dm s).1 19 ∧ μ.1 20 = (dm s).1 20 ∧ μ.1 16 = hz_n nc ∧ μ.1 17 = hz_n nb)
  ∧ (∀ b, 18 ≤ b → b ≤ 32 → μ.2 b = (dm s).2 b) ∧ (∀ j, j < dnc s → μ.2 33 j = (dm s).2 33 j)
  ∧ (∀ k, k < dnb s → μ.2 34 k = (dm s).2 34 k ∧ μ.2 35 k = (dm s).2 35 k ∧ μ.2 36 k = (dm s).2 36 k)
  ∧ (∀ k, k < nb → ∃ z : Int, μ.2 36 k = hz_n z ∧ -1 ≤ z ∧ z < k)
theorem bR_up {S : zG} {dfs : Nat → Option Nat} {s : zD} {μ : zM} {nc nb : Nat} (h : bRm s μ nc nb) (hz : ∀ k, k < dnb s → ∃ z : Int, (dm s).2 36 k = hz_n z ∧ -1 ≤ z ∧ z < k) :
    bUp S dfs s (bsR s μ nc nb) (fun _ => False) (fun _ => False) (fun _ => False) (fun _ => False) := by
  obtain ⟨⟨a1, a2, a3, a4⟩, b, c, d, e, f⟩ := h
  refine ⟨⟨⟨fun _ _ h => h, fun _ _ h => h, fun _ _ => rfl⟩, ⟨a1, d⟩, ⟨a3, e⟩, ⟨Nat.le_refl _, fun _ _ => rfl⟩, hz⟩, fun _ _ => ⟨rfl, fun _ => rfl, fun _ => ⟨rfl, rfl⟩⟩, fun _ _ => ⟨rfl, fun _ => rfl, rfl⟩, fun _ _ => rfl, fun _ h => h.elim, ?_, Nat.le_refl _, ?_⟩
  · intro q _
    refine ⟨rfl, ?_, fun _ => ?_, fun _ _ => ?_⟩
    · show μ.2 29 q = _; rw [c 29 (by decide) (by decide)]
    · show μ.2 28 q = _; rw [c 28 (by decide) (by decide)]
    · show μ.2 30 q = _; rw [c 30 (by decide) (by decide)]
  · intro m k v H
    unfold bNK at *
    have e28 : (dm (bsR s μ nc nb)).2 28 = (dm s).2 28 := c 28 (by decide) (by decide)
    have e31 : (dm (bsR s μ nc nb)).2 31 = (dm s).2 31 := c 31 (by decide) (by decide)
    have e32 : (dm (bsR s μ nc nb)).2 32 = (dm s).2 32 := c 32 (by decide) (by decide)
    rw [e28, e31, e32]; exact H
theorem bGrowR {E : Nat → Option zT} {dfs : Nat → Option Nat} {ST : Nat → Nat → Int32} {F l0 am : Nat} {S : zG} {s : zD} (st : bSta E dfs ST F S) (I : bInv S dfs ST l0 am s) {μ : zM} {nc nb : Nat} (h : bRm s μ nc nb) : bInv S dfs ST l0 am (bsR s μ nc nb) := by
  have D := bDefs_of st I
  obtain ⟨i1, i2, i3, i4, i5, i6, i7, i8⟩ := id I
  have u := bR_up (S := S) (dfs := dfs) h i7
  have hb : dnb s ≤ 950 := i2.2.2.2.2.2.2.2.2.2.2.2.2.2
  obtain ⟨⟨a1, a2, a3, a4⟩, ⟨b1, b2, b3, b4, b5⟩, c, d, e, f⟩ := h
  obtain ⟨j1, j2, j3, j4, j5, j6, j7, j8, j9, j10, j11, j12, j13, j14⟩ := i2
  refine ⟨⟨?_, i1.2⟩, ⟨j1, ?_, j3, ?_, j5, j6, j7, j8, ?_, b4, b5, j12, a2, a4⟩, i3, ?_, i5, i6, f, ?_⟩
  · intro k k1 k2; show μ.2 k = _; rw [c k (by omega) (by omega)]; exact i1.1 k k1 k2
  · show μ.1 20 = _; rw [b3]; exact j2
  · show μ.1 19 = _; rw [b2]; exact j4
  · show μ.1 15 = _; rw [b1]; exact j9
  · have e32 : (dm (bsR s μ nc nb)).2 32 = (dm s).2 32 := c 32 (by decide) (by decide)
    rw [e32]; exact i4
  · intro i p hi hc
    obtain ⟨T, DT⟩ := D i hi
    exact bCel_up hb u (bKid_lt DT hc) hc id id (fun _ => ⟨fun _ _ _ => ⟨fun _ => id, id⟩, fun _ _ _ => id⟩) (i8 i p hi hc)
-- the class binds
def bsD (s : zD) (b t : Nat) : zD := (kA (dk s) 7 b (hz_n t), dm s, dg s, da s, dw s, (fun x => if x = b then some t else dd s x), (dk s, s).2.2.2.2.2.2.2)
theorem bsD_d (s : zD) (b t x : Nat) : dd (bsD s b t) x = if x = b then some t else dd s x := rfl
theorem bsD_kv (s : zD) (b t x : Nat) : kv (bsD s b t) x = if x = b then hz_n t else kv s x := by
  show (kA (dk s) 7 b (hz_n t)).2.1 7 x = _
  rw [kA2]; simp
theorem bsD_k (s : zD) (b t a x : Nat) (h : a ≠ 7) : (dk (bsD s b t)).2.1 a x = (dk s).2.1 a x := by
  show (kA (dk s) 7 b (hz_n t)).2.1 a x = _
  rw [kA2]; simp [h]
theorem bD_up {S : zG} {dfs : Nat → Option Nat} {s : zD} {b t : Nat} (hd : dd s b = none ∨ dd s b = some t) (hcl : s_cl S (dl s (b / 40)) (b % 40) ≠ 1) (hz : ∀ k, k < dnb s → ∃ z : Int, (dm s).2 36 k = hz_n z ∧ -1 ≤ z ∧ z < k) :
    bUp S dfs s (bsD s b t) (fun _ => False) (fun _ => False) (· = b) (fun _ => False) := by
  refine ⟨⟨⟨fun _ _ h => h, ?_, fun x _ => bsD_k s b t 8 x (by decide)⟩, ⟨Nat.le_refl _, fun _ _ => rfl⟩, ⟨Nat.le_refl _, fun _ _ => ⟨rfl, rfl, rfl⟩⟩, ⟨Nat.le_refl _, fun _ _ => rfl⟩, hz⟩, ?_, fun _ _ => ⟨rfl, fun _ => rfl, rfl⟩, ?_, fun _ h => h.elim, fun _ _ => ⟨rfl, rfl, fun _ => rfl, fun _ _ => rfl⟩, Nat.le_refl _, fun _ _ _ h => h⟩
  · intro x y h
    rw [bsD_d]
    split
    · rename_i e
      rw [e] at h
      rcases hd with hd | hd
      · rw [hd] at h; exact absurd h (by simp)
      · rw [← hd]; exact h
    · exact h
  · intro x _
    refine ⟨bsD_k s b t 6 x (by decide), fun hx => ?_, fun _ => ⟨bsD_k s b t 9 x (by decide), bsD_k s b t 10 x (by decide)⟩⟩
    rw [bsD_kv, if_neg]
    intro e; rw [e] at hx; exact hcl hx
  · intro x hx; rw [bsD_d, if_neg hx]
theorem bAssign {E : Nat → Option zT} {dfs : Nat → Option Nat} {ST : Nat → Nat → Int32} {F l0 am : Nat} {S : zG} {s : zD} (st : bSta E dfs ST F S) (I : bInv S dfs ST l0 am s)
    {i p t : Nat} (hi : i < de s) (hc : s_cl S (dl s i) p = 2) (ht : t < 2000) (hd : dd s (40 * i + p) = none ∨ dd s (40 * i + p) = some t)
    (hpar : s_cl S (dl s i) (s_ow S (dl s i) p) = 1 → ks s (40 * i + s_ow S (dl s i) p) ≠ hz_n 0) :
    bInv S dfs ST l0 am (bsD s (40 * i + p) t) ∧ bUp S dfs s (bsD s (40 * i + p) t) (fun _ => False) (fun _ => False) (· = 40 * i + p) (fun _ => False) := by
  have D := bDefs_of st I
  obtain ⟨T, DT⟩ := D i hi
  obtain ⟨i1, i2, i3, i4, i5, i6, i7, i8⟩ := id I
  have hp : p < 40 := by
    have := DT.2.2.2.2.2.2.2.2.2.2.2.2.1 p hc; have := DT.2.1; omega
  have hb : dnb s ≤ 950 := i2.2.2.2.2.2.2.2.2.2.2.2.2.2
  have x1 : (40 * i + p) / 40 = i := by omega
  have x2 : (40 * i + p) % 40 = p := by omega
  have u := bD_up (S := S) (dfs := dfs) (s := s) (b := 40 * i + p) (t := t) hd (by rw [x1, x2, hc]; decide) i7
  refine ⟨⟨i1, i2, i3, ?_, i5, ?_, i7, ?_⟩, u⟩
  · intro l hl
    rw [bsD_k _ _ _ _ _ (by decide)]
    rcases i4 l hl with h | ⟨y1, i', q, y2, y3, y4, y5, y6, y7, y8, y9⟩
    · exact Or.inl h
    · refine Or.inr ⟨y1, i', q, y2, y3, y4, y5, y6, y7, y8, ?_⟩
      show (dk (bsD s (40 * i + p) t)).2.1 6 _ ≠ _
      rw [bsD_k _ _ _ _ _ (by decide)]; exact y9
  · intro x y h
    rw [bsD_kv]
    rw [bsD_d] at h
    split at h
    · rename_i e
      rw [if_pos e, ← Option.some.inj h]
      exact ⟨rfl, ht, i, p, e, hi, hc⟩
    · rename_i e
      rw [if_neg e]; exact i6 x y h
  · intro i' p' hi' hc'
    obtain ⟨T', DT'⟩ := D i' hi'
    refine bCel_up hb u (bKid_lt DT' hc') hc' id id ?_ (i8 i' p' hi' hc')
    intro hs
    refine ⟨fun _ _ _ => ⟨fun _ => id, id⟩, ?_⟩
    intro b b1 b2 e
    have hbl : b < 40 := by
      have := DT'.2.2.2.2.2.2.2.2.2.2.2.2.1 b b1; have := DT'.2.1; omega
    have e1 : i' = i := by omega
    have e2 : b = p := by omega
    subst e1; subst e2
    rw [b2] at hpar
    exact hpar hc' hs
-- a letter's own promise is known on both sides
def bsC (s : zD) (l c q : Nat) : zD := (kA (dk s) 5 l (hz_n c), mA (dm s) 32 l (hz_n q), s.2.2)
theorem bsC_k (s : zD) (l c q a x : Nat) : (dk (bsC s l c q)).2.1 a x = if a = 5 then (if x = l then hz_n c else (dk s).2.1 5 x) else (dk s).2.1 a x := kA2 _ _ _ _ _ _
theorem bsC_m (s : zD) (l c q a x : Nat) : (dm (bsC s l c q)).2 a x = if a = 32 then (if x = l then hz_n q else (dm s).2 32 x) else (dm s).2 a x := mA2 _ _ _ _ _ _
theorem bsC_kn (s : zD) (l c q a : Nat) (h : a ≠ 5) : (dk (bsC s l c q)).2.1 a = (dk s).2.1 a := kA2n _ _ _ _ _ h
theorem bsC_mn (s : zD) (l c q a : Nat) (h : a ≠ 32) : (dm (bsC s l c q)).2 a = (dm s).2 a := mA2n _ _ _ _ _ h
theorem bC_up {S : zG} {dfs : Nat → Option Nat} {s : zD} {l c q : Nat} (h0 : (dm s).2 32 l = hz_n (-1)) (hn : dnp s ≤ 1000) (hz : ∀ k, k < dnb s → ∃ z : Int, (dm s).2 36 k = hz_n z ∧ -1 ≤ z ∧ z < k) :
    bUp S dfs s (bsC s l c q) (fun _ => False) (fun _ => False) (fun _ => False) (fun _ => False) := by
  refine ⟨⟨⟨fun _ _ h => h, fun _ _ h => h, fun x _ => by rw [bsC_kn _ _ _ _ _ (by decide)]⟩, ⟨Nat.le_refl _, fun j _ => by rw [bsC_mn _ _ _ _ _ (by decide)]⟩, ⟨Nat.le_refl _, fun j _ => by rw [bsC_mn _ _ _ _ _ (by decide), bsC_mn _ _ _ _ _ (by decide), bsC_mn _ _ _ _ _ (by decide)]; exact ⟨rfl, rfl, rfl⟩⟩, ⟨Nat.le_refl _, fun _ _ => rfl⟩, hz⟩, ?_, fun _ _ => ⟨rfl, fun _ => rfl, rfl⟩, fun _ _ => rfl, fun _ h => h.elim, ?_, Nat.le_refl _, ?_⟩
  · intro x _
    refine ⟨?_, fun _ => ?_, fun _ => ?_⟩
    · show (dk (bsC s l c q)).2.1 6 x = _; rw [bsC_kn _ _ _ _ _ (by decide)]
    · show (dk (bsC s l c q)).2.1 7 x = _; rw [bsC_kn _ _ _ _ _ (by decide)]
    · rw [bsC_kn _ _ _ _ _ (by decide), bsC_kn _ _ _ _ _ (by decide)]; exact ⟨rfl, rfl⟩
  · intro x _
    rw [bsC_mn _ _ _ _ _ (by decide), bsC_mn _ _ _ _ _ (by decide), bsC_mn _ _ _ _ _ (by decide)]
    exact ⟨rfl, rfl, fun _ => rfl, fun _ _ => rfl⟩
  · intro m k v H
    unfold bNK at *
    rw [bsC_mn _ _ _ _ 28 (by decide), bsC_mn _ _ _ _ 31 (by decide)]
    rcases H with H | H | H | ⟨l', a1, a2, a3, H⟩
    · exact Or.inl H
    · exact Or.inr (Or.inl H)
    · exact Or.inr (Or.inr (Or.inl H))
    · refine Or.inr (Or.inr (Or.inr ⟨l', a1, a2, a3, ?_⟩))
      rcases H with H | ⟨b1, q', z, b2, b3, b4, b5, b6, b7⟩
      · exact Or.inl H
      · refine Or.inr ⟨b1, q', z, ?_, b3, b4, b5, b6, b7⟩
        rw [bsC_m, if_pos rfl, if_neg]
        · exact b2
        · intro e
          rw [e, h0] at b2
          have := zn_inj (by omega) (by omega) b2
          omega
theorem bConst {E : Nat → Option zT} {dfs : Nat → Option Nat} {ST : Nat → Nat → Int32} {F l0 am : Nat} {S : zG} {s : zD} (st : bSta E dfs ST F S) (I : bInv S dfs ST l0 am s)
    {l i q : Nat} (h0 : (dm s).2 32 l = hz_n (-1)) (hi : i < de s) (hl : dl s i = l) (hp : s_pc S l = 0) (hq : q < dnp s) (hg : dg s (40 * i + 1) = some (q : Int)) (hks : ks s (40 * i + 1) ≠ hz_n 0) :
    bInv S dfs ST l0 am (bsC s l (40 * i + 1) q) ∧ bUp S dfs s (bsC s l (40 * i + 1) q) (fun _ => False) (fun _ => False) (fun _ => False) (fun _ => False) := by
  have D := bDefs_of st I
  obtain ⟨i1, i2, i3, i4, i5, i6, i7, i8⟩ := id I
  have hb : dnb s ≤ 950 := i2.2.2.2.2.2.2.2.2.2.2.2.2.2
  have u := bC_up (S := S) (dfs := dfs) (s := s) (l := l) (c := 40 * i + 1) (q := q) h0 i2.2.2.2.2.2.2.2.2.2.2.2.1 i7
  refine ⟨⟨⟨?_, i1.2⟩, i2, i3, ?_, i5, ?_, ?_, ?_⟩, u⟩
  · intro k k1 k2; rw [bsC_mn _ _ _ _ _ (by omega)]; exact i1.1 k k1 k2
  · intro l' hl'
    rw [bsC_k, bsC_m, if_pos rfl, if_pos rfl]
    by_cases e : l' = l
    · rw [if_pos e, if_pos e]
      refine Or.inr ⟨?_, i, q, hi, ?_, ?_, hq, rfl, hg, rfl, ?_⟩
      · rw [e, ← hl]; exact (i3 i hi).2.2
      · rw [e]; exact hl
      · rw [e]; exact hp
      · show (dk (bsC s l (40 * i + 1) q)).2.1 6 _ ≠ _
        rw [bsC_kn _ _ _ _ _ (by decide)]; exact hks
    · rw [if_neg e, if_neg e]
      have e6 : ∀ c, ks (bsC s l (40 * i + 1) q) c = ks s c := fun c => by show (dk (bsC s l (40 * i + 1) q)).2.1 6 c = _; rw [bsC_kn _ _ _ _ _ (by decide)]
      simp only [e6]
      exact i4 l' hl'
  · intro x y h
    show (dk (bsC s l (40 * i + 1) q)).2.1 7 x = _ ∧ _
    rw [bsC_kn _ _ _ _ _ (by decide)]; exact i6 x y h
  · rw [bsC_mn _ _ _ _ _ (by decide)]; exact i7
  · intro i' p' hi' hc'
    obtain ⟨T, DT⟩ := D i' hi'
    exact bCel_up hb u (bKid_lt DT hc') hc' id id (fun _ => ⟨fun _ _ _ => ⟨fun _ => id, id⟩, fun _ _ _ => id⟩) (i8 i' p' hi' hc')

-- an entry
def bsE (s : zD) (κ : zK) (μ : zM) (l k : Nat) (a : Nat → Nat) : zD :=
  (κ, μ, dg s, da s, dw s, (fun x => if 40 * de s ≤ x ∧ x < 40 * de s + k then some (a (x - 40 * de s)) else dd s x), dt s, (fun i => if i = de s then l else dl s i), de s + 1, dnp s, dnc s, dnb s)
def bEk (s : zD) (κ : zK) (n k : Nat) (a : Nat → Nat) (d : Option Nat) : Prop :=
  (κ.1 1 = (dk s).1 1 ∧ κ.1 2 = (dk s).1 2 ∧ κ.1 3 = (dk s).1 3 ∧ κ.1 4 = hz_n (de s + 1 : Nat))
  ∧ (∀ b, b ≠ 6 → b ≠ 7 → κ.2.1 b = (dk s).2.1 b) ∧ (∀ x, x < 40 * de s ∨ 40 * de s + n ≤ x → κ.2.1 6 x = (dk s).2.1 6 x) ∧ (∀ x, 40 * de s ≤ x → x < 40 * de s + n → κ.2.1 6 x = hz_n 0)
  ∧ (∀ x, x < 40 * de s → κ.2.1 7 x = (dk s).2.1 7 x) ∧ (∀ j, j < k → κ.2.1 7 (40 * de s + j) = hz_n (a j))
  ∧ κ.2.2 3 = (dk s).2.2 3 ∧ κ.2.2 4 (de s) = d ∧ (∀ i, i < de s → κ.2.2 4 i = (dk s).2.2 4 i)
theorem bE_up {S : zG} {dfs : Nat → Option Nat} {s : zD} {κ : zK} {μ : zM} {l n k : Nat} {a : Nat → Nat} {d : Option Nat} (h : bEk s κ n k a d) (hm : μ.2 = (dm s).2)
    (hd : ∀ c t, dd s c = some t → c < 40 * de s) (hz : ∀ k, k < dnb s → ∃ z : Int, (dm s).2 36 k = hz_n z ∧ -1 ≤ z ∧ z < k) :
    bUp S dfs s (bsE s κ μ l k a) (40 * de s ≤ ·) (fun _ => False) (40 * de s ≤ ·) (fun _ => False) := by
  obtain ⟨h1, h2, h3, h4, h5, h6, h7, h8, h9⟩ := h
  refine ⟨⟨⟨fun _ _ h => h, ?_, fun x _ => ?_⟩, ⟨Nat.le_refl _, fun j _ => ?_⟩, ⟨Nat.le_refl _, fun j _ => ?_⟩, ⟨Nat.le_succ _, fun i hi => ?_⟩, hz⟩, ?_, fun _ _ => ⟨rfl, fun _ => rfl, rfl⟩, ?_, fun _ h => h.elim, ?_, Nat.le_refl _, ?_⟩
  · intro c t hc
    have := hd c t hc
    show (if 40 * de s ≤ c ∧ c < 40 * de s + k then some (a (c - 40 * de s)) else dd s c) = _
    rw [if_neg (by omega)]; exact hc
  · show κ.2.1 8 x = _; rw [h2 8 (by decide) (by decide)]
  · show μ.2 33 j = _; rw [hm]
  · show μ.2 34 j = _ ∧ μ.2 35 j = _ ∧ μ.2 36 j = _; rw [hm]; exact ⟨rfl, rfl, rfl⟩
  · show (if i = de s then l else dl s i) = _; rw [if_neg (by omega)]
  · intro x hx
    refine ⟨h3 x (by omega), fun _ => h5 x (by omega), fun _ => ⟨?_, ?_⟩⟩
    · show κ.2.1 9 x = _; rw [h2 9 (by decide) (by decide)]
    · show κ.2.1 10 x = _; rw [h2 10 (by decide) (by decide)]
  · intro x hx
    show (if 40 * de s ≤ x ∧ x < 40 * de s + k then some (a (x - 40 * de s)) else dd s x) = _
    rw [if_neg (by omega)]
  · intro q _
    refine ⟨rfl, ?_, fun _ => ?_, fun _ _ => ?_⟩
    · show μ.2 29 q = _; rw [hm]
    · show μ.2 28 q = _; rw [hm]
    · show μ.2 30 q = _; rw [hm]
  · intro m k' v H
    have e : (dm (bsE s κ μ l k a)).2 = (dm s).2 := hm
    unfold bNK at *
    rw [e]; exact H
theorem bEnter {E : Nat → Option zT} {dfs : Nat → Option Nat} {ST : Nat → Nat → Int32} {F l0 am : Nat} {S : zG} {s : zD} {sk : List Nat} (st : bSta E dfs ST F S) (I : bInv S dfs ST l0 am s) (K : bStk S s sk)
    {κ : zK} {μ : zM} {l : Nat} {a : Nat → Nat} {T : zT} (hl : l < 26) (hdf : dfs l ≠ none) (DT : bDef ST F S T l) (he : de s < am) (h : bEk s κ (s_n S l) (s_pc S l) a (dfs l)) (hm : μ.2 = (dm s).2)
    (hs : μ.1 15 = (dm s).1 15 ∧ μ.1 16 = (dm s).1 16 ∧ μ.1 17 = (dm s).1 17 ∧ μ.1 19 = (dm s).1 19 ∧ μ.1 20 = hz_n (de s + 1 : Nat)) (ha : ∀ j, j < s_pc S l → a j < 2000) :
    bInv S dfs ST l0 am (bsE s κ μ l (s_pc S l) a) ∧ bStk S (bsE s κ μ l (s_pc S l) a) sk ∧ bUp S dfs s (bsE s κ μ l (s_pc S l) a) (40 * de s ≤ ·) (fun _ => False) (40 * de s ≤ ·) (fun _ => False) := by
  have D := bDefs_of st I
  obtain ⟨i1, i2, i3, i4, i5, i6, i7, i8⟩ := id I
  have hb : dnb s ≤ 950 := i2.2.2.2.2.2.2.2.2.2.2.2.2.2
  have hdd : ∀ c t, dd s c = some t → c < 40 * de s := by
    intro c t hc
    obtain ⟨_, _, i, p, e1, e2, e3⟩ := i6 c t hc
    obtain ⟨T', DT'⟩ := D i e2
    have := DT'.2.2.2.2.2.2.2.2.2.2.2.2.1 p e3; have := DT'.2.1
    omega
  have hgg : ∀ c m, dg s c = some m → c < 40 * de s := by
    intro c m hc
    obtain ⟨_, _, i, p, e1, e2, e3⟩ := i5 c m hc
    obtain ⟨T', DT'⟩ := D i e2
    have := bKid_lt DT' e3
    omega
  have u := bE_up (S := S) (dfs := dfs) (l := l) h hm hdd i7
  obtain ⟨⟨h0, h1, h2, h3⟩, h4, h5, h6, h7, h8, h9, h10, h11⟩ := id h
  have hln : ∀ i, i < de s → dl (bsE s κ μ l (s_pc S l) a) i = dl s i := by
    intro i hi
    show (if i = de s then l else dl s i) = _; rw [if_neg (by omega)]
  have hle : dl (bsE s κ μ l (s_pc S l) a) (de s) = l := by
    show (if de s = de s then l else dl s _) = _; rw [if_pos rfl]
  obtain ⟨j1, j2, j3, j4, j5, j6, j7, j8, j9, j10, j11, j12, j13, j14⟩ := i2
  have hpcn := DT.2.2.2.1
  have hpn := DT.2.1
  refine ⟨⟨⟨?_, ?_⟩, ⟨h3, hs.2.2.2.2, ?_, ?_, he, j6, ?_, j8, ?_, ?_, ?_, j12, j13, j14⟩, ?_, ?_, ?_, ?_, ?_, ?_⟩, ?_, u⟩
  · intro k k1 k2; show μ.2 k = _; rw [hm]; exact i1.1 k k1 k2
  · show κ.2.2 3 = _; rw [h9]; exact i1.2
  · show κ.1 3 = _; rw [h2]; exact j3
  · show μ.1 19 = _; rw [hs.2.2.2.1]; exact j4
  · show κ.1 2 = _; rw [h1]; exact j7
  · show μ.1 15 = _; rw [hs.1]; exact j9
  · show μ.1 16 = _; rw [hs.2.1]; exact j10
  · show μ.1 17 = _; rw [hs.2.2.1]; exact j11
  · intro i hi
    have hi' : i < de s + 1 := hi
    by_cases e : i = de s
    · subst e
      rw [hle]
      exact ⟨hl, h10, hdf⟩
    · rw [hln i (by omega)]
      obtain ⟨a1, a2, a3⟩ := i3 i (by omega)
      refine ⟨a1, ?_, a3⟩
      show κ.2.2 4 i = _; rw [h11 i (by omega)]; exact a2
  · intro l' hl'
    show (κ.2.1 5 l' = _ ∧ μ.2 32 l' = _) ∨ (_ ∧ ∃ i q : Nat, _ ∧ _ ∧ _ ∧ _ ∧ κ.2.1 5 l' = _ ∧ _ ∧ μ.2 32 l' = _ ∧ _)
    rw [h4 5 (by decide) (by decide), hm]
    rcases i4 l' hl' with x | ⟨x1, i, q, x2, x3, x4, x5, x6, x7, x8, x9⟩
    · exact Or.inl x
    · refine Or.inr ⟨x1, i, q, Nat.lt_succ_of_lt x2, by rw [hln i x2]; exact x3, x4, x5, x6, x7, x8, ?_⟩
      show κ.2.1 6 _ ≠ _
      rw [h5 _ (by omega)]; exact x9
  · intro c m hc
    obtain ⟨a1, a2, i, p, a3, a4, a5⟩ := i5 c m hc
    exact ⟨a1, a2, i, p, a3, Nat.lt_succ_of_lt a4, by rw [hln i a4]; exact a5⟩
  · intro c t hc
    have hc2 : (if 40 * de s ≤ c ∧ c < 40 * de s + s_pc S l then some (a (c - 40 * de s)) else dd s c) = some t := hc
    split at hc2
    · rename_i hr
      have ht := Option.some.inj hc2
      refine ⟨?_, ?_, de s, c - 40 * de s, by omega, Nat.lt_succ_self _, ?_⟩
      · show κ.2.1 7 c = _
        have := h8 (c - 40 * de s) (by omega)
        have e : 40 * de s + (c - 40 * de s) = c := by omega
        rw [e] at this; rw [this, ht]
      · rw [← ht]; exact ha _ (by omega)
      · rw [hle]; exact (DT.2.2.2.2.2.2.1 _ (by omega)).2.2.1
    · obtain ⟨a1, a2, i, p, a3, a4, a5⟩ := i6 c t hc2
      refine ⟨?_, a2, i, p, a3, Nat.lt_succ_of_lt a4, by rw [hln i a4]; exact a5⟩
      show κ.2.1 7 c = _; rw [h7 c (hdd c t hc2)]; exact a1
  · show ∀ k, _ → ∃ z : Int, μ.2 36 k = _ ∧ _
    rw [hm]; exact i7
  · intro i p hi hc
    have hi' : i < de s + 1 := hi
    by_cases e : i = de s
    · subst e
      rw [hle] at hc ⊢
      have hpl := (DT.2.2.2.2.2.2.2.2.2.2.2.2.2 p hc)
      have hng : ∀ x, dg (bsE s κ μ l (s_pc S l) a) (40 * de s + x) = none := by
        intro x
        cases hx : dg s (40 * de s + x) with
        | none => exact hx
        | some m => have := hgg _ _ hx; omega
      refine ⟨fun _ => ⟨fun q q1 q2 => ⟨fun _ => ?_, hng q⟩, fun b b1 b2 => ?_⟩, fun m hm' => ?_, fun _ _ => ?_⟩
      · have := (DT.2.2.2.2.2.2.2.2.2.2.2.2.2 q q1).1
        exact h6 _ (by omega) (by omega)
      · show (if 40 * de s ≤ 40 * de s + b ∧ 40 * de s + b < 40 * de s + s_pc S l then _ else dd s (40 * de s + b)) = none
        rw [if_neg]
        · cases hx : dd s (40 * de s + b) with
          | none => rfl
          | some m => have := hdd _ _ hx; omega
        · intro hr
          have := (DT.2.2.2.2.2.2.1 b (by omega)).2.2.2
          omega
      · rw [hng] at hm'; exact absurd hm' (by simp)
      · exact h6 _ (by omega) (by omega)
    · have hie : i < de s := by omega
      rw [hln i hie] at hc ⊢
      obtain ⟨T', DT'⟩ := D i hie
      have hp := bKid_lt DT' hc
      refine bCel_up hb u hp hc (by omega) id ?_ (i8 i p hie hc)
      intro _
      refine ⟨fun q q1 _ => ⟨fun _ => ?_, id⟩, fun b b1 _ => ?_⟩
      · have := bKid_lt DT' q1; omega
      · have := DT'.2.2.2.2.2.2.2.2.2.2.2.2.1 b b1; have := DT'.2.1; omega
  · obtain ⟨k1, k2, k3, k4, k5⟩ := K
    have e11 : (dk (bsE s κ μ l (s_pc S l) a)).2.1 11 = (dk s).2.1 11 := h4 11 (by decide) (by decide)
    refine ⟨?_, bSk_same e11 k2, k3, ?_, ?_⟩
    · show κ.1 1 = _; rw [h0]; exact k1
    · intro c hc
      obtain ⟨a1, a2⟩ := k4 c hc
      rcases a2 with a2 | ⟨i, p, a2, a3, a4⟩
      · refine ⟨?_, Or.inl a2⟩
        show κ.2.1 6 c = _
        rw [h5 c (by omega)]; exact a1
      · refine ⟨?_, Or.inr ⟨i, p, a2, Nat.lt_succ_of_lt a3, by rw [hln i a3]; exact a4⟩⟩
        obtain ⟨T', DT'⟩ := D i a3
        have hp := bKid_lt DT' a4
        show κ.2.1 6 c = _
        rw [h5 c (by omega)]; exact a1
    · intro i p hi hc hs'
      have hi' : i < de s + 1 := hi
      by_cases e : i = de s
      · subst e
        rw [hle] at hc
        have hpl := (DT.2.2.2.2.2.2.2.2.2.2.2.2.2 p hc)
        have : κ.2.1 6 (40 * de s + p) = hz_n 1 := hs'
        rw [h6 _ (by omega) (by omega)] at this
        exact absurd this (by decide)
      · have hie : i < de s := by omega
        rw [hln i hie] at hc
        obtain ⟨T', DT'⟩ := D i hie
        have hp := bKid_lt DT' hc
        have h' : κ.2.1 6 (40 * i + p) = hz_n 1 := hs'
        rw [h5 _ (by omega)] at h'
        exact k5 i p hie hc h'
