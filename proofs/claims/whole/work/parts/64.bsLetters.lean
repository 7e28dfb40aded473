theorem g_en1T {T : zT} {d : Nat} {y : Int32} {e n : Nat} (hT : T.1 = n) (hn : n ≤ 40) (he : e < 50) : ∀ (j f k : Nat) (κ : zK), n = k + j → j < f → ∃ κ1, g_en1 T d y (hz_n (40 * e : Nat)) f κ (hz_n k) = g_en2 T d (hz_n (40 * e : Nat)) 10 κ1 y (T.2.2.2.2 - hz_n 1)
    ∧ κ1.1 = κ.1 ∧ κ1.2.2 = κ.2.2 ∧ (∀ b, b ≠ 6 → κ1.2.1 b = κ.2.1 b) ∧ (∀ x, x < 40 * e + k ∨ 40 * e + n ≤ x → κ1.2.1 6 x = κ.2.1 6 x) ∧ (∀ x, 40 * e + k ≤ x → x < 40 * e + n → κ1.2.1 6 x = hz_n 0)
  | j, 0, _, _, _, h => by omega
  | 0, f + 1, k, κ, hk, _ => by
    refine ⟨κ, ?_, rfl, rfl, fun _ _ => rfl, fun _ _ => rfl, fun x h1 h2 => by omega⟩
    rw [g_en1]
    have e1 : (hz_n (T.1 : Int)).toInt = T.1 := zt _ (by omega)
    rw [e1, zt k (by omega), if_pos (by omega)]
  | j + 1, f + 1, k, κ, hk, hf => by
    obtain ⟨κ1, h1, h2, h3, h4, h5, h6⟩ := g_en1T (d := d) (y := y) hT hn he j f (k + 1) (kA κ 6 (40 * e + k) (hz_n 0)) (by omega) (by omega)
    refine ⟨κ1, ?_, h2, h3, ?_, ?_, ?_⟩
    · rw [g_en1]
      have e1 : (hz_n (T.1 : Int)).toInt = T.1 := zt _ (by omega)
      have e2 : hz_n ((40 * e : Nat) : Int) + hz_n k = hz_n (40 * e + k : Nat) := by rw [zn_add]; rfl
      rw [e1, zt k (by omega), if_neg (by omega), e2, zt (40 * e + k) (by omega), zgd_t (by omega), Int.toNat_natCast, zn1]
      exact h1
    · intro b hb; rw [h4 b hb, kA2n _ _ _ _ _ hb]
    · intro x hx; rw [h5 x (by omega), kA2, if_pos rfl, if_neg (by omega)]
    · intro x x1 x2
      by_cases e0 : x = 40 * e + k
      · rw [h5 x (by omega), kA2, if_pos rfl, if_pos e0]
      · exact h6 x (by omega) x2
theorem g_en2T {T : zT} {d e : Nat} (he : e < 50) (hT : T.1 ≤ 40) {A : Nat → Nat} {κ0 : zK} (h4 : κ0.1 4 = hz_n e) : ∀ (k f : Nat) (κ : zK) (y : Int32), k ≤ 4 → k < f → κ.1 = κ0.1 → κ.2.2 = κ0.2.2 → (∀ b, b ≠ 7 → κ.2.1 b = κ0.2.1 b) →
      (∀ j, j < k → A j < 2000) → (0 < k → y = hz_n (A (k - 1))) → (∀ j, j + 1 < k → κ0.2.1 8 (A (j + 1)) = hz_n (A j)) →
    ∃ κ', g_en2 T d (hz_n (40 * e : Nat)) f κ y (hz_n ((k : Int) - 1)) = some (hz_n (40 * e : Nat) + T.2.2.2.2 + hz_n 1, κ') ∧ (∀ b, b ≠ 4 → κ'.1 b = κ0.1 b) ∧ κ'.1 4 = hz_n (e + 1 : Nat)
      ∧ (∀ b, b ≠ 7 → κ'.2.1 b = κ0.2.1 b) ∧ (∀ x, x < 40 * e ∨ 40 * e + k ≤ x → κ'.2.1 7 x = κ.2.1 7 x) ∧ (∀ j, j < k → κ'.2.1 7 (40 * e + j) = hz_n (A j))
      ∧ κ'.2.2 3 = κ0.2.2 3 ∧ κ'.2.2 4 e = some d ∧ (∀ i, i ≠ e → κ'.2.2 4 i = κ0.2.2 4 i)
  | k, 0, _, _, _, h, _, _, _, _, _, _ => by omega
  | 0, f + 1, κ, y, _, _, h1, h2, h3, _, _, _ => by
    refine ⟨kS (kQ κ 4 e (some d)) 4 (hz_n (e + 1 : Nat)), ?_, ?_, rfl, ?_, fun _ _ => rfl, fun j hj => by omega, ?_, ?_, ?_⟩
    · rw [g_en2, zn_ti (by omega), if_pos (by omega)]
      unfold g_en3
      rw [h1, h4, zt e (by omega), zgd_t (by omega), Int.toNat_natCast, zn1]
    · intro b hb; rw [kS1, if_neg hb, kQ1, h1]
    · intro b hb; rw [kS2, kQ2, h3 b hb]
    · funext x; rw [kS2, kQ3, if_neg (by decide), h2]
    · rw [kS2, kQ3, if_pos rfl, if_pos rfl]
    · intro i hi; rw [kS2, kQ3, if_pos rfl, if_neg hi, h2]
  | k + 1, f + 1, κ, y, hk, hf, h1, h2, h3, hA, hy, hc => by
    have hy' := hy (by omega)
    have e0 : k + 1 - 1 = k := by omega
    rw [e0] at hy'
    obtain ⟨κ', a1, a2, a3, a4, a5, a6, a7, a8, a9⟩ := g_en2T (d := d) he hT h4 k f (kA κ 7 (40 * e + k) y) (κ.2.1 8 (A k)) (by omega) (by omega) h1 h2 (fun b hb => by rw [kA2n _ _ _ _ _ hb, h3 b hb]) (fun j hj => hA j (by omega))
      (fun h => by rw [h3 8 (by decide)]; have := hc (k - 1) (by omega); have e : k - 1 + 1 = k := by omega
                   rw [e] at this; exact this) (fun j hj => hc j (by omega))
    refine ⟨κ', ?_, a2, a3, a4, ?_, ?_, a7, a8, a9⟩
    · have hAk := hA k (by omega)
      have e1 : ((k + 1 : Nat) : Int) - 1 = (k : Int) := by omega
      have e2 : hz_n ((40 * e : Nat) : Int) + hz_n k = hz_n (40 * e + k : Nat) := by rw [zn_add]; rfl
      have e3 : hz_n (k : Int) + hz_n (-1) = hz_n ((k : Int) - 1) := by rw [zn_add]; rfl
      have e4 : y.toInt = A k := by rw [hy']; exact zt _ (by omega)
      have e5 : (hz_n (k : Int)).toInt = k := zt k (by omega)
      rw [e1, g_en2, e5, if_neg (by omega), e4, if_neg (by omega), e2, zt (40 * e + k) (by omega), zgd_t (by omega), zgd_t (by omega), Int.toNat_natCast, Int.toNat_natCast, e3]
      exact a1
    · intro x hx; rw [a5 x (by omega), kA2, if_pos rfl, if_neg (by omega)]
    · intro j hj
      by_cases e : j = k
      · subst e; rw [a5 _ (by omega), kA2, if_pos rfl, if_pos rfl]; exact hy'
      · exact a6 j (by omega)
theorem g_enterT {E : Nat → Option zT} {dfs : Nat → Option Nat} {ST : Nat → Nat → Int32} {F l0 am : Nat} {S : zG} {s : zD} (st : bSta E dfs ST F S) (I : bInv S dfs ST l0 am s) {l : Nat} {T : zT} {y : Int32} {A : Nat → Nat} (hl : l < 26) (hdf : dfs l ≠ none) (DT : bDef ST F S T l) (hE : ∀ d, dfs l = some d → E d = some T) (hlt : de s < am)
    (hA : ∀ j, j < s_pc S l → A j < 2000) (hy : 0 < s_pc S l → y = hz_n (A (s_pc S l - 1))) (hc : ∀ j, j + 1 < s_pc S l → (dk s).2.1 8 (A (j + 1)) = hz_n (A j)) :
    ∃ κ', g_enter (dk s) E (hz_n l) y = some (hz_n (40 * de s + (s_pc S l + 1) : Nat), κ') ∧ bEk s κ' (s_n S l) (s_pc S l) A (dfs l) ∧ (∀ b, b ≠ 4 → κ'.1 b = (dk s).1 b) := by
  obtain ⟨j1, j2, j3, j4, j5, j6, j7, j8, j9, j10, j11, j12, j13, j14⟩ := I.2.1
  obtain ⟨d, hd⟩ : ∃ d, dfs l = some d := by
    cases h : dfs l with
    | none => exact absurd h hdf
    | some d => exact ⟨d, rfl⟩
  have hTn : T.1 = s_n S l := DT.1
  obtain ⟨κ1, b1, b2, b3, b4, b5, b6⟩ := g_en1T (d := d) (y := y) (e := de s) hTn DT.2.1 (by omega) (s_n S l) 50 0 (dk s) (by omega) (by have := DT.2.1; omega)
  obtain ⟨κ', a1, a2, a3, a4, a5, a6, a7, a8, a9⟩ := g_en2T (T := T) (d := d) (e := de s) (A := A) (κ0 := κ1) (by omega) (by rw [hTn]; exact DT.2.1) (by rw [b2]; exact j1) (s_pc S l) 10 κ1 y DT.2.2.1 (by have := DT.2.2.1; omega) rfl rfl (fun _ _ => rfl) hA hy (fun j hj => by rw [b4 8 (by decide)]; exact hc j hj)
  refine ⟨κ', ?_, ⟨⟨?_, ?_, ?_, a3⟩, ?_, ?_, ?_, ?_, a6, ?_, ?_, ?_⟩, ?_⟩
  · unfold g_enter
    rw [j1, j3, zt (de s) (by omega), zt am (by omega), if_pos (by omega), zt l (by omega), zgd_t (by omega), Int.toNat_natCast, I.1.2, hd]
    show (E d).bind _ = _
    rw [hE d hd, Option.bind_some, zn_mul]
    have e1 : (de s : Int) * 40 = ((40 * de s : Nat) : Int) := by omega
    have e2 : hz_n 0 = hz_n ((0 : Nat) : Int) := rfl
    rw [e1, e2, b1, DT.2.2.2.2.1, zn_sub, a1, DT.2.2.2.2.1, zn_add, zn_add]
    rfl
  · rw [a2 1 (by decide), b2]
  · rw [a2 2 (by decide), b2]
  · rw [a2 3 (by decide), b2]
  · intro b h6 h7; rw [a4 b h7, b4 b h6]
  · intro x hx; rw [a4 6 (by decide), b5 x (by omega)]
  · intro x x1 x2; rw [a4 6 (by decide)]; exact b6 x (by omega) x2
  · intro x hx; rw [a5 x (by omega), b4 7 (by decide)]
  · rw [a7, b3]
  · rw [a8, hd]
  · intro i hi; rw [a9 i (by omega), b3]
  · intro b hb; rw [a2 b hb, b2]
theorem g_enterO {dfs : Nat → Option Nat} {ST : Nat → Nat → Int32} {l0 am : Nat} {S : zG} {s : zD} {E : Nat → Option zT} (I : bInv S dfs ST l0 am s) {l : Nat} {y : Int32} (hlt : ¬ de s < am) : g_enter (dk s) E (hz_n l) y = some (hz_n (-1), kS (dk s) 5 (hz_n (-2))) := by
  obtain ⟨j1, j2, j3, j4, j5, j6, j7, j8, j9, j10, j11, j12, j13, j14⟩ := I.2.1
  unfold g_enter
  rw [j1, j3, zt (de s) (by omega), zt am (by omega), if_neg (by omega)]

theorem kA_push {κ : zK} {c n l : Nat} {x : Int32} : kPush (kA κ 5 l x) c n = kA (kPush κ c n) 5 l x := by
  refine Prod.ext ?_ (Prod.ext ?_ rfl)
  · rfl
  · funext b y
    show (kPush (kA κ 5 l x) c n).2.1 b y = (kA (kPush κ c n) 5 l x).2.1 b y
    rw [kA2]
    unfold kPush
    simp only [kS2, kA2]
    by_cases h5 : b = 5
    · subst h5; simp
    · simp [h5]
theorem bCnt_wn {S : zG} {s : zD} {wn wr cr ps ob oe : Nat} : bCnt S s wn wr cr ps ob oe ↔ bCnt S s (wn + 1) wr (cr + 1) ps ob oe := by
  unfold bCnt
  constructor
  · rintro ⟨H1, H2, H3, H4, H5⟩; exact ⟨H1, by omega, H3, H4, H5⟩
  · rintro ⟨H1, H2, H3, H4, H5⟩; exact ⟨H1, by omega, H3, H4, H5⟩
theorem bFr_hi {E : Nat → Option zT} {dfs : Nat → Option Nat} {ST : Nat → Nat → Int32} {F l0 am f0 : Nat} {S : zG} {s s' : zD} {Z Y B Q : Nat → Prop} {e0 : Nat} (st : bSta E dfs ST F S) (I : bInv S dfs ST l0 am s) (u : bUp S dfs s s' Z Y B Q)
    (h : ∀ x, Z x ∨ Y x ∨ B x ∨ Q x → 40 * e0 ≤ x) (hY : ¬ Y 2000) {r : List Nat} {d f : Nat} (hr : ∀ x, x ∈ r → x = 2000 ∨ x < 40 * e0) (hk : ∀ l, (dk s).2.1 5 l ≠ hz_n (-1) → (dk s').2.1 5 l = (dk s).2.1 5 l)
    (hf : ∀ j, j < f → (dm s').2 37 j = (dm s).2 37 j ∧ (dm s').2 38 j = (dm s).2 38 j) (fr : bFr S l0 f0 s r d f) : bFr S l0 f0 s' r d f := by
  have hb : dnb s ≤ 950 := I.2.1.2.2.2.2.2.2.2.2.2.2.2.2.2
  refine bFr_up (b_le I) hb u (bDefs_of st I) hk ?_ ?_ hf fr
  · intro x _ hx
    rcases hr x hx with h2 | h2
    · exact Or.inl h2
    · refine Or.inr fun i p e hi hc => ?_
      have hp := (zsg st I hi hc).2.1
      obtain ⟨T, DT⟩ := bDefs_of st I i hi
      refine ⟨fun z => ?_, fun z => ?_, fun z => ?_, fun q q1 _ => ⟨fun _ _ z => ?_, fun z => ?_⟩, fun b b1 _ z => ?_⟩
      · have := h _ (Or.inl z); omega
      · have := h _ (Or.inr (Or.inr (Or.inr z))); omega
      · have := h _ (Or.inr (Or.inl z)); omega
      · have := h _ (Or.inl z); have := bKid_lt DT q1; omega
      · have := h _ (Or.inr (Or.inl z)); have := bKid_lt DT q1; omega
      · have := h _ (Or.inr (Or.inr (Or.inl z))); have := DT.2.2.2.2.2.2.2.2.2.2.2.2.1 b b1; have := DT.2.1; omega
  · intro x hx z
    rcases hr x hx with h2 | h2
    · rw [h2] at z; exact hY z
    · have := h _ (Or.inr (Or.inl z)); omega
-- a letter without parameters is entered
theorem bBody {E : Nat → Option zT} {dfs : Nat → Option Nat} {ST : Nat → Nat → Int32} {F l0 am f0 g wn wr : Nat} {S : zG} {kw : zK} {mw : zM} {s : zD} {μ : zM} {c : Nat} {r : List Nat} {f1 f2 l d : Nat} {T : zT}
    (hF : 951 ≤ F) (st : bSta E dfs ST F S) (I : bInv S dfs ST l0 am s) (K : bStk S s (c :: r)) (fx : bFix kw mw f0 (dk s) (dm s)) (h5 : (dk s).1 5 = hz_n 0) (hg : (c :: r).getLast? = some g) (fr : bFr S l0 f0 s r c f1) (kf : bKF S s c f1 f2) (hf2 : f2 + 1 < 2150) (hn : dnp s < 999)
    (hl : l < 26) (hdl : dfs l = some d) (hEd : E d = some T) (DT : bDef ST F S T l) (h18 : ST 18 l = hz_n 1) (hpc : s_pc S l = 0) (hc0 : (dk s).2.1 5 l = hz_n (-1)) (hm0 : (dm s).2 32 l = hz_n (-1))
    (hw : (c = 2000 ∧ l = l0) ∨ ∃ i p, c = 40 * i + p ∧ i < de s ∧ s_cl S (dl s i) p = 1 ∧ s_op S (dl s i) p = 3 ∧ s_vl S (dl s i) p = l)
    (hnd : m_need (dm s) (hz_n (-30 - (l : Int))) = some μ) (r18 : (dm s).1 18 = hz_n f2) (cnt : bCnt S s wn wr 0 0 0 0) (h21 : (dm s).1 21 = hz_n 0) :
    ∃ κ', ((g_enter (dk s) E (hz_n l) (hz_n (-1) - hz_n l)).bind fun q => zgd (0 ≤ (hz_n l).toInt ∧ (hz_n l).toInt < 26) (g_ll2 (kA q.2 5 (hz_n l).toInt.toNat q.1) (hz_n c) (hz_n l))) = some κ' ∧ bOutc S dfs ST F l0 am f0 g wn wr kw mw (ghs s) κ' μ := by
  have D := bDefs_of st I
  obtain ⟨j1, j2, j3, j4, j5, j6, j7, j8, j9, j10, j11, j12, j13, j14⟩ := id I.2.1
  have hle := b_le I
  -- what the reference does
  have hμ : μ = m_enter (mS (mA (mA (mA (mA (m_newPromise (dm s) (hz_n (40 * l : Nat)) (hz_n (-1))) 32 l (hz_n (dnp s))) 28 (dnp s) (hz_n 1)) 37 f2 (hz_n (4096 * 1 + dnp s : Nat))) 38 f2 (hz_n 0)) 18 (hz_n (f2 + 1 : Nat))) (hz_n l) (hz_n (-1)) := by
    unfold m_need at hnd
    have e : hz_n (-30) - hz_n (-30 - (l : Int)) = hz_n l := by rw [zn_sub]; congr 1; omega
    rw [zn_ti (by omega), if_pos (by omega), e] at hnd
    unfold m_letter at hnd
    have e18 : (dm s).2 18 = ST 18 := I.1.1 18 (by decide) (by decide)
    have e19 : (dm s).2 19 = ST 19 := I.1.1 19 (by decide) (by decide)
    rw [zt l (by omega), zgd_t (by omega), Int.toNat_natCast, e18, e19, h18, zn_ti (by omega), if_neg (by omega), DT.2.2.2.2.2.1, hpc, zn_ti (by omega), if_neg (by omega)] at hnd
    unfold m_body at hnd
    rw [zt l (by omega), zgd_t (by omega), Int.toNat_natCast, hm0, zn_ti (by omega), if_pos (by omega), j9, zt (dnp s) (by omega), zgd_t (by omega), zn_add, zn_sub, zn_mul] at hnd
    have e2 : (dnp s : Int) + 1 - 1 = dnp s := by omega
    have e3 : (40 : Int) * (l : Int) = ((40 * l : Nat) : Int) := by omega
    rw [e2, e3] at hnd
    unfold m_body2 at hnd
    have e28 : (mA (m_newPromise (dm s) (hz_n (40 * l : Nat)) (hz_n (-1))) 32 l (hz_n (dnp s))).2 28 (dnp s) = hz_n 0 := by
      rw [m_np j9 (by omega), mA2n _ _ _ _ _ (by decide), mS2, mA2n _ _ _ _ _ (by decide), mA2n _ _ _ _ _ (by decide), mA2, if_pos rfl, if_pos rfl]
    have e18' : (mA (m_newPromise (dm s) (hz_n (40 * l : Nat)) (hz_n (-1))) 32 l (hz_n (dnp s))).1 18 = hz_n f2 := by
      rw [m_np j9 (by omega)]; exact r18
    rw [zt (dnp s) (by omega), zgd_t (by omega), Int.toNat_natCast, e28, zn_ti (by omega), if_neg (by omega), if_neg (by omega), e18', zt f2 (by omega), zgd_t (by omega)] at hnd
    have e4 : m_stack (mA (mA (m_newPromise (dm s) (hz_n (40 * l : Nat)) (hz_n (-1))) 32 l (hz_n (dnp s))) 28 (dnp s) (hz_n 1)) (hz_n 1) (hz_n (dnp s)) (hz_n 0) = _ := m_stF (w := 1) (a := dnp s) (b := hz_n 0) e18' (by omega) (by omega) (by omega)
    rw [e4] at hnd
    exact (Option.some.inj hnd).symm
  rw [m_np j9 (by omega)] at hμ
  by_cases hlt : de s < am
  · -- an entry
    obtain ⟨κE, g1, ek, gs⟩ := g_enterT st I (y := hz_n (-1) - hz_n l) (A := fun _ => 0) hl (by rw [hdl]; simp) DT (fun d' h => by rw [hdl] at h; rw [← Option.some.inj h]; exact hEd) hlt (fun j hj => by omega) (fun h => by omega) (fun j hj => by omega)
    have hroot : s_cl S l 1 = 1 ∧ s_ro S l 1 = 3 ∧ s_nd S l 1 = 0 ∧ s_pa S l 1 = 40 := by
      have h1 := DT.2.2.2.2.2.2.2.1; have h2 := DT.2.2.2.2.2.2.2.2.1; have h3 := DT.2.2.2.2.2.2.2.2.2.1
      rw [hpc, Nat.zero_add] at h1 h2 h3
      exact ⟨h1, h2, h3⟩
    have h40 : s_cl S l 40 ≠ 1 := fun h => by have := bKid_lt DT h; omega
    -- the entry, the promise, the push, the letter
    let μE : zM := mS (dm s) 20 (hz_n (de s + 1 : Nat))
    obtain ⟨I1, K1, u1⟩ := bEnter (κ := κE) (μ := μE) (a := fun _ => 0) st I K hl (by rw [hdl]; simp) DT hlt ek rfl ⟨rfl, rfl, rfl, rfl, rfl⟩ (fun j hj => by omega)
    have cnt1 := bCnt_enter (μ := μE) (a := fun _ => 0) (ps := 0) (ob := 0) D I DT ek rfl (by rw [hpc]; exact bCnt_ps (Nat.zero_le _) (Nat.le_refl _) cnt)
    rw [ind_t hpc] at cnt1
    have cs1 : ∀ x, x ∈ c :: r → x = 2000 ∨ x < 40 * de s := by
      intro x hx
      rcases (K.2.2.2.1 x hx).2 with h | ⟨i, p, h1, h2, h3⟩
      · exact Or.inl h
      · have := (zsg st I h2 h3).2.1; exact Or.inr (by omega)
    generalize hs1 : bsE s κE μE l (s_pc S l) (fun _ => 0) = s1 at I1 K1 u1 cnt1
    have d1 : de s1 = de s + 1 := by rw [← hs1]; rfl
    have l1 : dl s1 (de s) = l := by rw [← hs1]; exact if_pos rfl
    have np1 : dnp s1 = dnp s := by rw [← hs1]; rfl
    have k1 : dk s1 = κE := by rw [← hs1]; rfl
    have m1 : dm s1 = μE := by rw [← hs1]; rfl
    have D1 := bDefs_of st I1
    have fr1 : bFr S l0 f0 s1 r c f1 := bFr_hi st I (e0 := de s) u1 (by intro x h; rcases h with h | h | h | h; exact h; exact h.elim; exact h; exact h.elim) id (fun x hx => cs1 x (List.mem_cons_of_mem _ hx)) (by intro l' _; rw [k1, ek.2.1 5 (by decide) (by decide)]) (fun j _ => by rw [m1]; exact ⟨rfl, rfl⟩) fr
    have kf1 : bKF S s1 c f1 f2 := bKF_up u1 id (fun j _ => by rw [m1]; rfl) kf
    have hk0 : ks s1 (40 * de s + 1) = hz_n 0 := by
      show (dk s1).2.1 6 _ = _
      rw [k1]; exact ek.2.2.2.1 _ (by omega) (by have := DT.2.2.2.1; omega)
    have hgn : dg s1 (40 * de s + 1) = none := by
      have e : dg s1 = dg s := by rw [← hs1]; rfl
      rw [e]
      cases hx : dg s (40 * de s + 1) with
      | none => rfl
      | some m' =>
        obtain ⟨_, _, i, p, a1, a2, a3⟩ := I.2.2.2.2.1 _ _ hx
        have := (zsg st I a2 a3).2.1; omega
    have hi1 : de s < de s1 := by omega
    have hcl1 : s_cl S (dl s1 (de s)) 1 = 1 := by rw [l1]; exact hroot.1
    have own1 : bOwn S (dl s1 (de s)) 1 := by rw [l1]; exact Or.inr (Or.inl ⟨hroot.2.1, hpc⟩)
    have env1 : bEnv S s1 (de s) (dl s1 (de s)) 1 (-1) := by
      refine ⟨by omega, by omega, fun v b hv => ?_⟩
      have h := DT.2.2.2.2.2.2.2.2.2.2.1 v
      rw [hpc, Nat.zero_add] at h
      rw [l1, h] at hv
      exact absurd hv (by simp [s_lp])
    have hpa1 : s_cl S (dl s1 (de s)) (s_pa S (dl s1 (de s)) 1) = 1 → ks s1 (40 * de s + s_pa S (dl s1 (de s)) 1) ≠ hz_n 0 := by
      intro h; rw [l1, hroot.2.2.2] at h; exact absurd h h40
    have vir1 := (I1.2.2.2.2.2.2.2 (de s) 1 hi1 hcl1).1 hk0
    have I2 := bMakeO st I1 hi1 hcl1 own1 hgn hk0 (by omega) hpa1 env1
    have u2 := bM_up (S := S) (dfs := dfs) (s := s1) (c := 40 * de s + 1) (a := -1) (n := 40 * dl s1 (de s) + s_nd S (dl s1 (de s)) 1) hgn I1.2.2.2.2.2.2.1
    have cnt2 := bCnt_make (n := 40 * dl s1 (de s) + s_nd S (dl s1 (de s)) 1) (a := -1) hi1 (by omega) hcl1 hk0 own1 hgn cnt1
    have cs2 : ∀ x, x ∈ c :: r → x = 2000 ∨ x < 40 * de s := cs1
    generalize hs2 : bsM s1 (40 * de s + 1) (-1) (40 * dl s1 (de s) + s_nd S (dl s1 (de s)) 1) = s2 at I2 u2 cnt2
    have hde2 : de s2 = de s + 1 := by rw [← hs2]; exact d1
    have hdl2 : dl s2 = dl s1 := by rw [← hs2]; rfl
    have hdk2 : dk s2 = κE := by rw [← hs2]; exact k1
    have hdm2 : dm s2 = mS (mA (mA (mA μE 28 (dnp s) (hz_n 0)) 29 (dnp s) (hz_n (40 * l : Nat))) 30 (dnp s) (hz_n (-1))) 15 (hz_n (dnp s + 1 : Nat)) := by
      rw [← hs2]
      show mS (mA (mA (mA (dm s1) 28 (dnp s1) (hz_n 0)) 29 (dnp s1) (hz_n (40 * dl s1 (de s) + s_nd S (dl s1 (de s)) 1 : Nat))) 30 (dnp s1) (hz_n (-1))) 15 (hz_n (dnp s1 + 1 : Nat)) = _
      rw [m1, np1, l1, hroot.2.2.1]; rfl
    have hg2 : dg s2 (40 * de s + 1) = some (dnp s : Int) := by rw [← hs2, bsM_g, if_pos rfl, np1]
    have hks2 : ∀ x, ks s2 x = ks s1 x := fun x => by rw [← hs2]; rfl
    have hnp2 : dnp s2 = dnp s + 1 := by rw [← hs2]; show dnp s1 + 1 = _; rw [np1]
    have K2 : bStk S s2 (c :: r) := by
      rw [← hs2]; exact ⟨K1.1, bSk_same (s := s1) (s' := bsM s1 (40 * de s + 1) (-1) (40 * dl s1 (de s) + s_nd S (dl s1 (de s)) 1)) rfl K1.2.1, K1.2.2⟩
    have D2 := bDefs_of st I2
    have fr2 : bFr S l0 f0 s2 r c f1 := bFr_hi st I1 (e0 := de s) u2 (by intro x h; rcases h with h | h | h | h; exact h.elim; (have h' : x = 40 * de s + 1 := h; omega); exact h.elim; exact h.elim) (fun h => by have h' : 2000 = 40 * de s + 1 := h; omega) (fun x hx => cs1 x (List.mem_cons_of_mem _ hx)) (by intro l' _; rw [hdk2, k1]) (fun j _ => by rw [hdm2, m1]; exact ⟨rfl, rfl⟩) fr1
    have hcn : c ≠ 40 * de s + 1 := by rcases cs1 c (List.mem_cons_self ..) with h | h <;> omega
    have kf2 : bKF S s2 c f1 f2 := bKF_up u2 hcn (fun j _ => by rw [hdm2, m1]; rfl) kf1
    have hcl2 : s_cl S (dl s2 (de s)) 1 = 1 := by rw [hdl2]; exact hcl1
    have own2 : bOwn S (dl s2 (de s)) 1 := by rw [hdl2]; exact own1
    obtain ⟨I3, K3, u3⟩ := bPushO st I2 K2 (i := de s) (p := 1) (q := dnp s) (by omega) hcl2 (by rw [hks2]; exact hk0) own2 hg2
    have cnt3 := bCnt_own (n := (c :: r).length) (q := dnp s) (cr := 0) (i := de s) (p := 1) (by omega) (by omega) hcl2 (by rw [hks2]; exact hk0) own2 (by rw [hg2]; simp) (bCnt_wn.mp cnt2)
    have fr3 : bFr S l0 f0 (bsO s2 (40 * de s + 1) (c :: r).length (dnp s)) r c f1 := bFr_hi st I2 (e0 := de s) u3 (by intro x h; rcases h with h | h | h | h; (have h' : x = 40 * de s + 1 := h; omega); exact h.elim; exact h.elim; exact h.elim) id (fun x hx => cs1 x (List.mem_cons_of_mem _ hx)) (fun l' _ => bsP_k s2 _ _ 0 5 _ (by simp)) (fun j _ => by rw [bsO_mn _ _ _ _ _ (by decide), bsO_mn _ _ _ _ _ (by decide)]; exact ⟨rfl, rfl⟩) fr2
    have kf3 : bKF S (bsO s2 (40 * de s + 1) (c :: r).length (dnp s)) c f1 f2 := bKF_up u3 id (fun j _ => by rw [bsO_mn _ _ _ _ _ (by decide)]) kf2
    have h32 : (dm (bsO s2 (40 * de s + 1) (c :: r).length (dnp s))).2 32 l = hz_n (-1) := by
      rw [bsO_mn _ _ _ _ _ (by decide), hdm2, mS2, mA2n _ _ _ _ _ (by decide), mA2n _ _ _ _ _ (by decide), mA2n _ _ _ _ _ (by decide)]; exact hm0
    obtain ⟨I4, u4⟩ := bConst st I3 (l := l) (i := de s) (q := dnp s) h32 (by show de s < de s2; omega) (by show dl s2 (de s) = l; rw [hdl2]; exact l1) hpc (by show dnp s < dnp s2; omega) hg2 (by rw [bsO_ks, if_pos rfl]; decide)
    have cnt4 := bCnt_wn.mpr (bCnt_const (c := 40 * de s + 1) (q := dnp s) (oe := 0) hl h32 (by omega) cnt3)
    generalize hs4 : bsC (bsO s2 (40 * de s + 1) (c :: r).length (dnp s)) l (40 * de s + 1) (dnp s) = s4 at I4 u4 cnt4
    have K4 : bStk S s4 ((40 * de s + 1) :: c :: r) := by
      rw [← hs4]
      obtain ⟨z1, z2, z3, z4, z5⟩ := K3
      refine ⟨z1, bSk_same (s := bsO s2 (40 * de s + 1) (c :: r).length (dnp s)) (by rw [bsC_kn _ _ _ _ _ (by decide)]) z2, z3, ?_, ?_⟩
      · intro x hx
        show (dk (bsC _ _ _ _)).2.1 6 x = _ ∧ _
        rw [bsC_kn _ _ _ _ _ (by decide)]; exact z4 x hx
      · intro i p hi hc
        show (dk (bsC _ _ _ _)).2.1 6 _ = _ → _
        rw [bsC_kn _ _ _ _ _ (by decide)]; exact z5 i p hi hc
    have hdk4 : dk s4 = kPush (kA κE 5 l (hz_n (40 * de s + 1 : Nat))) (40 * de s + 1) (c :: r).length := by
      rw [← hs4, kA_push]
      show kA (kPush (dk s2) _ _) 5 l _ = _
      rw [hdk2]
    have hdm4 : dm s4 = mA (mA (mS (mA (mA (mA μE 28 (dnp s) (hz_n 0)) 29 (dnp s) (hz_n (40 * l : Nat))) 30 (dnp s) (hz_n (-1))) 15 (hz_n (dnp s + 1 : Nat))) 28 (dnp s) (hz_n 1)) 32 l (hz_n (dnp s)) := by
      rw [← hs4]
      show mA (mA (dm s2) 28 (dnp s) (hz_n 1)) 32 l (hz_n (dnp s)) = _
      rw [hdm2]
    have fr4 : bFr S l0 f0 s4 r c f1 := bFr_hi st I3 (e0 := de s) u4 (by intro x h; rcases h with h | h | h | h <;> exact h.elim) id (fun x hx => cs1 x (List.mem_cons_of_mem _ hx)) (by
      intro l' h
      rw [← hs4, bsC_k, if_pos rfl, if_neg]
      intro e
      rw [e] at h
      exact h (by show (kPush (dk s2) _ _).2.1 5 l = _; rw [kPush_fix.2 5 (by decide) (by decide) (by decide) (by decide), hdk2, ek.2.1 5 (by decide) (by decide)]; exact hc0)) (fun j _ => by rw [← hs4, bsC_mn _ _ _ _ _ (by decide), bsC_mn _ _ _ _ _ (by decide)]; exact ⟨rfl, rfl⟩) fr3
    have kf4 : bKF S s4 c f1 f2 := bKF_up u4 id (fun j _ => by rw [← hs4, bsC_mn _ _ _ _ _ (by decide)]) kf3
    have hde4 : de s4 = de s + 1 := by rw [← hs4]; exact hde2
    have hdl4 : dl s4 = dl s1 := by rw [← hs4]; exact hdl2
    have hg4 : dg s4 (40 * de s + 1) = some (dnp s : Int) := by rw [← hs4]; exact hg2
    have hnp4 : dnp s4 = dnp s + 1 := by rw [← hs4]; exact hnp2
    -- the class
    have hcls : ((g_enter (dk s) E (hz_n l) (hz_n (-1) - hz_n l)).bind fun q => zgd (0 ≤ (hz_n l).toInt ∧ (hz_n l).toInt < 26) (g_ll2 (kA q.2 5 (hz_n l).toInt.toNat q.1) (hz_n c) (hz_n l))) = some (dk s4) := by
      rw [g1, Option.bind_some, hpc, zt l (by omega), zgd_t (by omega), Int.toNat_natCast]
      show g_ll2 (kA κE 5 l (hz_n (40 * de s + 1 : Nat))) (hz_n c) (hz_n l) = _
      unfold g_ll2
      have e5 : (kA κE 5 l (hz_n (40 * de s + 1 : Nat))).1 5 = hz_n 0 := by rw [kA1, gs 5 (by decide)]; exact h5
      have e5' : (kA κE 5 l (hz_n (40 * de s + 1 : Nat))).2.1 5 l = hz_n (40 * de s + 1 : Nat) := by rw [kA2, if_pos rfl, if_pos rfl]
      rw [e5, zn_ti (by omega), if_pos rfl, zt l (by omega), zgd_t (by omega), Int.toNat_natCast, e5', hdk4]
      refine g_kA0 (by omega) ?_ ?_ ?_
      · rw [kA2n _ _ _ _ _ (by decide)]; exact ek.2.2.2.1 _ (by omega) (by have := DT.2.2.2.1; omega)
      · rw [kA1, gs 1 (by decide)]; exact K.1
      · exact bStk_len st I1 K1 (d := 40 * de s + 1) (by omega) hk0
    refine ⟨_, hcls, ?_⟩
    -- the reference
    have hμ2 : μ = m_evaluate (mS (mS (mA (mA (mA (mA (mS (mA (mA (mA (dm s) 28 (dnp s) (hz_n 0)) 29 (dnp s) (hz_n (40 * l : Nat))) 30 (dnp s) (hz_n (-1))) 15 (hz_n (dnp s + 1 : Nat))) 32 l (hz_n (dnp s))) 28 (dnp s) (hz_n 1)) 37 f2 (hz_n (4096 * 1 + dnp s : Nat))) 38 f2 (hz_n 0)) 18 (hz_n (f2 + 1 : Nat))) 20 (hz_n (de s + 1 : Nat))) (hz_n (40 * l : Nat)) (hz_n (-1)) := by
      rw [hμ]
      unfold m_enter
      have a20 : (mS (mA (mA (mA (mA (mS (mA (mA (mA (dm s) 28 (dnp s) (hz_n 0)) 29 (dnp s) (hz_n (40 * l : Nat))) 30 (dnp s) (hz_n (-1))) 15 (hz_n (dnp s + 1 : Nat))) 32 l (hz_n (dnp s))) 28 (dnp s) (hz_n 1)) 37 f2 (hz_n (4096 * 1 + dnp s : Nat))) 38 f2 (hz_n 0)) 18 (hz_n (f2 + 1 : Nat))).1 20 = hz_n (de s) := j2
      have a19 : (mS (mA (mA (mA (mA (mS (mA (mA (mA (dm s) 28 (dnp s) (hz_n 0)) 29 (dnp s) (hz_n (40 * l : Nat))) 30 (dnp s) (hz_n (-1))) 15 (hz_n (dnp s + 1 : Nat))) 32 l (hz_n (dnp s))) 28 (dnp s) (hz_n 1)) 37 f2 (hz_n (4096 * 1 + dnp s : Nat))) 38 f2 (hz_n 0)) 18 (hz_n (f2 + 1 : Nat))).1 19 = hz_n am := j4
      rw [a20, a19, zt (de s) (by omega), zt am (by omega), if_neg (by omega), zn1, zn_mul]
      congr 1
    have hsame : bSame (fun _ => False) s4 (bsN s4 μ) := by
      refine bsN_same ⟨?_, ?_⟩
      · rw [hμ2, hdm4]; exact ⟨rfl, rfl, rfl, rfl, rfl⟩
      · intro b b1 b2
        rw [hμ2, hdm4]
        funext x
        show (mS (mS (mA (mA (mA (mA (mS (mA (mA (mA (dm s) 28 (dnp s) (hz_n 0)) 29 (dnp s) (hz_n (40 * l : Nat))) 30 (dnp s) (hz_n (-1))) 15 (hz_n (dnp s + 1 : Nat))) 32 l (hz_n (dnp s))) 28 (dnp s) (hz_n 1)) 37 f2 (hz_n (4096 * 1 + dnp s : Nat))) 38 f2 (hz_n 0)) 18 (hz_n (f2 + 1 : Nat))) 20 (hz_n (de s + 1 : Nat))).2 b x = _
        have n37 : b ≠ 37 := by omega
        have n38 : b ≠ 38 := by omega
        rw [mS2, mS2, mA2n _ _ _ _ _ n38, mA2n _ _ _ _ _ n37]
        by_cases h32' : b = 32
        · subst h32'; simp only [mA2, mS2]; simp; rfl
        · by_cases h28' : b = 28
          · subst h28'; simp only [mA2, mS2]; simp; rfl
          · simp only [mA2, mS2]; simp [h32', h28']; rfl
    have h37 : ∀ j, j < f2 → μ.2 37 j = (dm s4).2 37 j ∧ μ.2 38 j = (dm s4).2 38 j := by
      intro j hj
      rw [hμ2, hdm4]
      rw [m_evaluate2]
      simp only [mA2, mS2]
      simp [show ¬ j = f2 by omega]
      exact ⟨rfl, rfl⟩
    have fr5 : bFr S l0 f0 (bsN s4 μ) (c :: r) (40 * de s + 1) f2 := by
      refine ⟨f1, f2, bFr_same I4 (bDefs_of st I4) hsame (fun _ _ => id) (fun j hj => h37 j (by have := bKF_le kf; omega)) fr4, bKF_same I4 hsame (fun j hj => (h37 j hj).1) kf4, ?_⟩
      have hcn5 : (dk (bsN s4 μ)).2.1 5 l = hz_n (40 * de s + 1 : Nat) := by
        show (dk s4).2.1 5 l = _
        rw [← hs4, bsC_k, if_pos rfl, if_pos rfl]
      rcases hw with ⟨e1, e2⟩ | ⟨i, p, e1, e2, e3, e4, e5⟩
      · subst e2
        exact Or.inl ⟨e1, hcn5, by omega, rfl⟩
      · have el : dl (bsN s4 μ) i = dl s i := by
          show dl s4 i = _
          rw [hdl4, ← hs1]
          show (if i = de s then l else dl s i) = _
          rw [if_neg (by omega)]
        refine Or.inr ⟨i, p, e1, by show i < de s4; omega, by rw [el]; exact e3, ?_⟩
        rw [el]
        refine Or.inr (Or.inl ⟨e4, ?_, by omega, rfl⟩)
        rw [e5]; exact hcn5
    have kf5 : bKF S (bsN s4 μ) (40 * de s + 1) f2 (f2 + 1) := by
      refine Or.inl ⟨de s, 1, dnp s, rfl, by show de s < de s4; omega, by show s_cl S (dl s4 (de s)) 1 = 1; rw [hdl4]; exact hcl1, by show bOwn S (dl s4 (de s)) 1; rw [hdl4]; exact own1, hg4, ?_, rfl⟩
      show μ.2 37 f2 = _
      rw [hμ2]
      rw [m_evaluate2]
      simp only [mA2, mS2]; simp
    have hb4 : dnb s4 ≤ 950 := I4.2.1.2.2.2.2.2.2.2.2.2.2.2.2.2
    have u5 := bUp_same (S := S) (dfs := dfs) hsame I4.2.2.2.2.2.2.1
    have hks4 : ∀ x, x ≠ 40 * de s + 1 → ks s4 x = ks s1 x := by
      intro x hx
      rw [← hs4]
      show (dk (bsC _ _ _ _)).2.1 6 x = _
      rw [bsC_kn _ _ _ _ _ (by decide)]
      show ks (bsO s2 (40 * de s + 1) (c :: r).length (dnp s)) x = _
      rw [bsO_ks, if_neg hx, hks2]
    have cnt5 := bCnt_same hsame cnt4
    refine bOutc_gh (gh' := ghs (bsN s4 μ)) (ghL_t (ghL_g u1.1) (ghL_t (ghL_g u2.1) (ghL_t (ghL_g u3.1) (ghL_t (ghL_g u4.1) (ghL_g u5.1))))) ?_
    refine bEval (s := bsN s4 μ) (c := 40 * de s + 1) (r := c :: r) (f1 := f2) (f2 := f2 + 1) (i := de s) (p := 1) hF st (bInv_same st I4 hsame) (bStk_same hsame rfl rfl K4) ?_ ?_ (by rw [List.getLast?_cons_cons]; exact hg) fr5 kf5 hf2 ?_ ?_ ?_ rfl (by show de s < de s4; omega) (by show s_cl S (dl s4 (de s)) 1 = 1; rw [hdl4]; exact hcl1) ?_
    · refine bFix_k fx ?_ ?_ ?_ ?_ ?_ (by show (dk s4).2.2 3 = _; rw [hdk4]; exact ek.2.2.2.2.2.2.1)
      · intro b hb
        show (dk s4).1 b = _
        rw [hdk4, kPush_fix.1 b (by omega), kA1, gs b (by omega)]
      · intro b hb
        show (dk s4).2.1 b = _
        rw [hdk4, kPush_fix.2 b (by omega) (by omega) (by omega) (by omega), kA2n _ _ _ _ _ (by omega), ek.2.1 b (by omega) (by omega)]
      · intro b b1 b2
        show μ.1 b = _
        rw [hμ2, m_evaluate1 (by omega) (by omega) (by omega), mS1, if_neg (by omega), mS1, if_neg (by omega)]
        rw [mA1, mA1, mA1, mA1, mS1, if_neg (by omega)]; rfl
      · intro b hb
        show μ.2 b = _
        rw [hμ2]
        rw [m_evaluate2, mS2, mS2, mA2n _ _ _ _ _ (by omega), mA2n _ _ _ _ _ (by omega), mA2n _ _ _ _ _ (by omega), mA2n _ _ _ _ _ (by omega), mS2, mA2n _ _ _ _ _ (by omega), mA2n _ _ _ _ _ (by omega), mA2n _ _ _ _ _ (by omega)]
      · intro j hj
        show μ.2 37 j = _ ∧ μ.2 38 j = _
        have := bFr_ge fr; have := bKF_le kf
        rw [(h37 j (by omega)).1, (h37 j (by omega)).2, hdm4]
        exact ⟨rfl, rfl⟩
    · show (dk s4).1 5 = _
      rw [hdk4, kPush_fix.1 5 (by decide), kA1, gs 5 (by decide)]; exact h5
    · show dnp s4 < 1000
      omega
    · show μ.1 21 = _
      rw [hμ2, m_evaluate1 (by decide) (by decide) (by decide), mS1, if_neg (by decide), mS1, if_neg (by decide)]; exact h21
    · refine ⟨de s, 1, rfl, by show de s < de s4; omega, by show s_cl S (dl s4 (de s)) 1 = 1; rw [hdl4]; exact hcl1, ?_, ?_, ?_, ?_, rfl, ?_, ?_, ?_⟩
      · show bVir S (bsN s4 μ) (de s) (dl s4 (de s)) 1
        rw [hdl4]
        refine ⟨fun q q1 q2 => ⟨fun q3 => ?_, ?_⟩, fun b b1 b2 => ?_⟩
        · show ks s4 _ = _
          rw [hks4]
          · exact (vir1.1 q q1 q2).1 q3
          · intro e
            have : q = 1 := by omega
            subst this
            rw [l1, hroot.2.1] at q3; exact absurd q3 (by decide)
        · show dg s4 _ = _
          have e : dg s4 = dg s2 := by rw [← hs4]; rfl
          rw [e, ← hs2, bsM_g, if_neg]
          · exact (vir1.1 q q1 q2).2
          · intro e
            have : q = 1 := by omega
            subst this
            rw [l1, hroot.2.2.2] at q2; exact absurd q2 (by decide)
        · show dd s4 _ = _
          have e : dd s4 = dd s1 := by rw [← hs4, ← hs2]; rfl
          rw [e]; exact vir1.2 b b1 b2
      · show (dk s4).2.1 9 _ = _
        rw [hdk4]; unfold kPush; simp only [kS2, kA2]; simp
      · show (dk s4).2.1 10 _ = _
        rw [hdk4]; unfold kPush; simp only [kS2, kA2]; simp
      · have e : da (bsN s4 μ) (40 * de s + 1) = -1 := by
          show da s4 _ = _
          rw [← hs4]
          show da s2 _ = _
          rw [← hs2, bsM_a, if_pos rfl]
        rw [e]
        show bEnv S (bsN s4 μ) (de s) (dl s4 (de s)) 1 (-1)
        rw [hdl4]
        refine ⟨by omega, by have : (0:Int) ≤ dnb (bsN s4 μ) := Int.natCast_nonneg _; omega, fun v b hv => ?_⟩
        have h := DT.2.2.2.2.2.2.2.2.2.2.1 v
        rw [hpc, Nat.zero_add] at h
        rw [l1, h] at hv
        exact absurd hv (by simp [s_lp])
      · show μ.1 18 = _
        rw [hμ2, m_evaluate1 (by decide) (by decide) (by decide), mS1, if_neg (by decide), mS1, if_pos rfl]
      · show μ.1 22 = hz_n (40 * dl s4 (de s) + s_nd S (dl s4 (de s)) 1 : Nat)
        rw [hμ2, hdl4, l1, hroot.2.2.1]; rfl
      · have e : da (bsN s4 μ) (40 * de s + 1) = -1 := by
          show da s4 _ = _
          rw [← hs4]
          show da s2 _ = _
          rw [← hs2, bsM_a, if_pos rfl]
        rw [e]
        show μ.1 23 = _
        rw [hμ2]; rfl
    · show bCnt S (bsN s4 μ) wn wr (ind (s_op S (dl s4 (de s)) 1 = 1)) 0 0 0
      have e : dl s2 = dl s4 := by rw [hdl2, hdl4]
      rw [← e]
      rw [Nat.zero_add] at cnt5
      exact cnt5
  · -- no entry is left
    have hlt' : de s = am := by omega
    refine ⟨kA (kS (dk s) 5 (hz_n (-2))) 5 l (hz_n (-1)), ?_, ?_⟩
    · rw [g_enterO I hlt, Option.bind_some, zt l (by omega), zgd_t (by omega), Int.toNat_natCast]
      unfold g_ll2
      have e5 : (kA (kS (dk s) 5 (hz_n (-2))) 5 l (hz_n (-1))).1 5 = hz_n (-2) := rfl
      rw [e5, zn_ti (by omega), if_neg (by omega)]
    · have a20 : (mS (mA (mA (mA (mA (mS (mA (mA (mA (dm s) 28 (dnp s) (hz_n 0)) 29 (dnp s) (hz_n (40 * l : Nat))) 30 (dnp s) (hz_n (-1))) 15 (hz_n (dnp s + 1 : Nat))) 32 l (hz_n (dnp s))) 28 (dnp s) (hz_n 1)) 37 f2 (hz_n (4096 * 1 + dnp s : Nat))) 38 f2 (hz_n 0)) 18 (hz_n (f2 + 1 : Nat))).1 20 = hz_n (de s) := j2
      have a19 : (mS (mA (mA (mA (mA (mS (mA (mA (mA (dm s) 28 (dnp s) (hz_n 0)) 29 (dnp s) (hz_n (40 * l : Nat))) 30 (dnp s) (hz_n (-1))) 15 (hz_n (dnp s + 1 : Nat))) 32 l (hz_n (dnp s))) 28 (dnp s) (hz_n 1)) 37 f2 (hz_n (4096 * 1 + dnp s : Nat))) 38 f2 (hz_n 0)) 18 (hz_n (f2 + 1 : Nat))).1 19 = hz_n am := j4
      unfold m_enter at hμ
      rw [a20, a19, zt (de s) (by omega), zt am (by omega), if_pos (by omega)] at hμ
      refine bEnds (κ := kA (kS (dk s) 5 (hz_n (-2))) 5 l (hz_n (-1))) (μ' := μ) I fx (z := -2) (by omega) (bRun_refl _ _) rfl ?_ ?_ ?_ ?_ ?_ ?_ ?_
      · intro b hb; rw [kA1, kS1, if_neg hb]
      · intro b hb; rw [kA2n _ _ _ _ _ (by omega), kS2]
      · rw [hμ]; rfl
      · intro b b1 b2
        rw [hμ, mS1, if_neg (by omega), mS1, if_neg (by omega)]
        rw [mA1, mA1, mA1, mA1, mS1, if_neg (by omega)]; rfl
      · rw [hμ]; rfl
      · intro b hb
        rw [hμ, mS2, mS2, mA2n _ _ _ _ _ (by omega), mA2n _ _ _ _ _ (by omega), mA2n _ _ _ _ _ (by omega), mA2n _ _ _ _ _ (by omega), mS2, mA2n _ _ _ _ _ (by omega), mA2n _ _ _ _ _ (by omega), mA2n _ _ _ _ _ (by omega)]
      · intro j hj
        have := bFr_ge fr; have := bKF_le kf
        rw [hμ]
        simp only [mA2, mS2]
        simp [show ¬ j = f2 by omega]

-- a letter is looked at (the root too), in either phase
theorem bLet {E : Nat → Option zT} {dfs : Nat → Option Nat} {ST : Nat → Nat → Int32} {F l0 am f0 g wn wr : Nat} {S : zG} {kw : zK} {mw : zM} {s : zD} {μ : zM} {c : Nat} {r : List Nat} {f1 f2 l : Nat}
    (hF : 951 ≤ F) (st : bSta E dfs ST F S) (I : bInv S dfs ST l0 am s) (K : bStk S s (c :: r)) (fx : bFix kw mw f0 (dk s) (dm s)) (h5 : (dk s).1 5 = hz_n 0) (hg : (c :: r).getLast? = some g) (fr : bFr S l0 f0 s r c f1) (kf : bKF S s c f1 f2) (hf2 : f2 + 1 < 2150) (hn : dnp s < 999)
    (hl : l < 26) (hw : (c = 2000 ∧ l = l0) ∨ ∃ i p, c = 40 * i + p ∧ i < de s ∧ s_cl S (dl s i) p = 1 ∧ s_op S (dl s i) p = 3 ∧ s_vl S (dl s i) p = l)
    (hnd : m_need (dm s) (hz_n (-30 - (l : Int))) = some μ) (r18 : (dm s).1 18 = hz_n f2) (cnt : bCnt S s wn wr 0 0 0 0) (h21 : (dm s).1 21 = hz_n 0) :
    ∃ κ', g_lookAtLetter (dk s) E (hz_n c) (hz_n l) = some κ' ∧ bOutc S dfs ST F l0 am f0 g wn wr kw mw (ghs s) κ' μ := by
  have hc2 : c < 2001 := by
    rcases hw with h | ⟨i, p, e1, e2, e3, _⟩
    · omega
    · have := (zsg st I e2 e3).2.2.2; omega
  have hle := b_le I
  have hnk : ∀ x w k v, bNK S dfs s (-30 - (l : Int)) k v → bVR S dfs s x w k v → ∀ m i p, c = 40 * i + p → i < de s → s_cl S (dl s i) p = 1 → ¬ bOwn S (dl s i) p → dg s c = some m → ∃ k' v', bNK S dfs s m k' v' ∧ bVR S dfs s x w k' v' := by
    intro x w k v nk vr m i p e1 e2 e3 e4 e5
    rcases hw with h | ⟨i', p', a1, a2, a3, a4, a5⟩
    · have := (zsg st I e2 e3).2.2.2; omega
    · have h1 := (zsg st I e2 e3).2.1
      have h2 := (zsg st I a2 a3).2.1
      have y1 : i' = i := by omega
      have y2 : p' = p := by omega
      subst y1; subst y2
      rw [e1] at e5
      rcases ((I.2.2.2.2.2.2.2 i' p' e2 e3).2.1 m e5).1 with ⟨ho, _⟩ | ⟨_, _, ho⟩
      · exact absurd ho e4
      · rcases ho with ⟨ho, _⟩ | ⟨ho, _⟩ | ⟨_, em⟩ | ⟨ho, _⟩
        · omega
        · omega
        · rw [em, a5]; exact ⟨k, v, nk, vr⟩
        · omega
  unfold g_lookAtLetter
  rw [g_pcn st I.1.2 hl, Option.bind_some]
  rcases st l hl with ⟨h1, h2⟩ | ⟨d, T, h1, h2, h3, D⟩
  · rw [if_pos h1, zn_ti (by omega), if_pos rfl]
    refine ⟨_, rfl, bEndL I fx (by omega) ?_ hnd⟩
    unfold bLp m_need
    have e : hz_n (-30) - hz_n (-30 - (l : Int)) = hz_n l := by rw [zn_sub]; congr 1; omega
    rw [zn_ti (by omega), if_pos (by omega), e]
    unfold m_letter
    have e18 : (dm s).2 18 = ST 18 := I.1.1 18 (by decide) (by decide)
    rw [zt l (by omega), zgd_t (by omega), Int.toNat_natCast, e18, h2, zn_ti (by omega), if_pos rfl]
    exact ⟨_, rfl, rfl, fun _ _ => rfl⟩
  · have hpc := D.2.2.1
    have hdn : dfs l ≠ none := by rw [h1]; simp
    rw [if_neg hdn, zt (s_pc S l) (by omega), if_neg (by omega)]
    by_cases hp0 : s_pc S l = 0
    · rw [if_neg (by omega), zt l (by omega), zgd_t (by omega), Int.toNat_natCast]
      rcases I.2.2.2.1 l hl with ⟨c1, c2⟩ | ⟨c0, i, q, c1, c2, c3, c4, c5, c6, c7, c8⟩
      · rw [c1, zn_ti (by omega), if_pos rfl]
        have := bBody hF st I K fx h5 hg fr kf hf2 hn hl h1 h2 D h3 hp0 c1 c2 hw hnd r18 cnt h21
        rw [zt l (by omega), Int.toNat_natCast] at this
        exact this
      · have hi40 : 40 * i + 1 < 2000 := by omega
        rw [c5, zt _ (by omega), if_neg (by omega)]
        unfold g_ll2
        rw [h5, zn_ti (by omega), if_pos rfl, zt l (by omega), zgd_t (by omega), Int.toNat_natCast, c5]
        obtain ⟨T', DT'⟩ := bDefs_of st I i c1
        have hcl : s_cl S (dl s i) 1 = 1 := by have := DT'.2.2.2.2.2.2.2.1; rw [c2, hp0] at this; rw [c2]; exact this
        have hro : s_ro S (dl s i) 1 = 3 := by have := DT'.2.2.2.2.2.2.2.2.1; rw [c2, hp0] at this; rw [c2]; exact this
        obtain ⟨M1, M2⟩ := (I.2.2.2.2.2.2.2 i 1 c1 hcl).2.1 _ c6
        rcases M2 with b0 | b1 | ⟨k, v, nk, vr⟩
        · exact absurd b0 c8
        · refine ⟨_, g_kA1 (by omega) b1, bEndL I fx (by omega) (bLoop_l st I hl c5 hi40 b1) hnd⟩
        · have hx := zvr vr
          refine ⟨_, g_kAk (by omega) (by omega) hx.1 hx.2 K.1, ?_⟩
          have nk2 : bNK S dfs s (-30 - (l : Int)) k v := by
            rcases nk with ⟨a1, a2, z, a3, a4, a5, a6⟩ | ⟨a1, a2, _⟩ | ⟨a1, _⟩ | ⟨l', a1, a2, _⟩
            · rw [Int.toNat_natCast] at a2 a5 a6
              exact Or.inr (Or.inr (Or.inr ⟨l, hl, rfl, hdn, Or.inr ⟨hp0, q, z, c7, a2, a3, a4, a5, a6⟩⟩))
            · omega
            · omega
            · omega
          obtain ⟨v', μ', e1, e2, e3, e4⟩ := bNK_need st I (by omega) nk2
          rw [hnd] at e1
          have := Option.some.inj e1
          subst this
          exact bFound st I K fx h5 hg fr kf (by omega) r18 h21 vr e2 e3 e4 (hnk _ _ k v nk2 vr) cnt
    · rw [if_pos (by omega), zn_sub]
      refine ⟨_, q_keep hc2 K.1, ?_⟩
      have nk2 : bNK S dfs s (-30 - (l : Int)) (hz_n 3) (hz_n (-1 - (l : Int))) := Or.inr (Or.inr (Or.inr ⟨l, hl, rfl, hdn, Or.inl ⟨by omega, rfl, rfl⟩⟩))
      have vr : bVR S dfs s (hz_n 5) (hz_n (-1 - (l : Int))) (hz_n 3) (hz_n (-1 - (l : Int))) := Or.inr (Or.inr (Or.inr ⟨rfl, rfl, l, 0, hl, by omega, hdn, Or.inl ⟨rfl, rfl, rfl⟩⟩))
      obtain ⟨v', μ', e1, e2, e3, e4⟩ := bNK_need st I (by omega) nk2
      rw [hnd] at e1
      have := Option.some.inj e1
      subst this
      exact bFound st I K fx h5 hg fr kf (by omega) r18 h21 vr e2 e3 e4 (hnk _ _ _ _ nk2 vr) cnt
-- a digit or ~
theorem bSt_v {E : Nat → Option zT} {dfs : Nat → Option Nat} {ST : Nat → Nat → Int32} {F l0 am f0 g wn wr : Nat} {S : zG} {kw : zK} {mw : zM} {s : zD} {r : List Nat} {f1 f2 i p : Nat} {k v : Int32}
    (st : bSta E dfs ST F S) (I : bInv S dfs ST l0 am s) (K : bStk S s ((40 * i + p) :: r)) (fx : bFix kw mw f0 (dk s) (dm s)) (h5 : (dk s).1 5 = hz_n 0) (hg : ((40 * i + p) :: r).getLast? = some g) (fr : bFr S l0 f0 s r (40 * i + p) f1) (kf : bKF S s (40 * i + p) f1 f2) (hf2 : f2 ≤ 2150)
    (hi : i < de s) (hcl : s_cl S (dl s i) p = 1) (hreg : bReg s (dm s) f2 k v) (ho : (s_op S (dl s i) p = 2 ∧ k = hz_n 0 ∧ v = hz_n (s_vl S (dl s i) p)) ∨ (s_op S (dl s i) p = 4 ∧ k = hz_n 1)) (cnt : bCnt S s wn wr 0 0 0 0) (h21 : (dm s).1 21 = hz_n 0) :
    ∃ κ', g_lookAt (dk s) E (hz_n (40 * i + p : Nat)) = some κ' ∧ bOutc S dfs ST F l0 am f0 g wn wr kw mw (ghs s) κ' (dm s) := by
  obtain ⟨sh, hp, hi50, h6⟩ := zsg st I hi hcl
  have hnk : ∀ x w, (∀ m, bAtm S s i (dl s i) p m → ∃ k' v', bNK S dfs s m k' v' ∧ bVR S dfs s x w k' v') → ∀ m i' p', 40 * i + p = 40 * i' + p' → i' < de s → s_cl S (dl s i') p' = 1 → ¬ bOwn S (dl s i') p' → dg s (40 * i + p) = some m → ∃ k' v', bNK S dfs s m k' v' ∧ bVR S dfs s x w k' v' := by
    intro x w h m i' p' e1 e2 e3 e4 e5
    have := (zsg st I e2 e3).2.1
    have y1 : i' = i := by omega
    have y2 : p' = p := by omega
    subst y1; subst y2
    rcases ((I.2.2.2.2.2.2.2 i' p' hi hcl).2.1 m e5).1 with ⟨ho, _⟩ | ⟨_, _, ho⟩
    · exact absurd ho e4
    · exact h m ho
  rcases ho with ⟨o2, ek, ev⟩ | ⟨o4, ek⟩
  · rw [g_la2 st I hi hcl o2]
    have hv := (bSh2 sh o2).2
    refine ⟨_, q_keep (by omega) K.1, bRet st I K fx h5 hg fr kf hf2 hreg h21 (Or.inl ⟨rfl, ek, ev.symm⟩) (hnk _ _ ?_) (bCnt_ps (Nat.zero_le _) (Nat.le_refl _) cnt)⟩
    intro m hm
    rcases hm with ⟨o, _⟩ | ⟨_, em⟩ | ⟨o, _⟩ | ⟨o, _⟩
    · omega
    · subst em
      refine ⟨hz_n 0, hz_n (s_vl S (dl s i) p), Or.inr (Or.inl ⟨by omega, by omega, rfl, ?_⟩), Or.inl ⟨rfl, rfl, rfl⟩⟩
      congr 1; omega
    · omega
    · omega
  · rw [g_la4 st I hi hcl o4]
    refine ⟨_, q_keep (by omega) K.1, bRet st I K fx h5 hg fr kf hf2 hreg h21 (Or.inr (Or.inl ⟨rfl, ek⟩)) (hnk _ _ ?_) (bCnt_ps (Nat.zero_le _) (Nat.le_refl _) cnt)⟩
    intro m hm
    rcases hm with ⟨o, _⟩ | ⟨o, _⟩ | ⟨o, _⟩ | ⟨_, em⟩
    · omega
    · omega
    · omega
    · subst em
      exact ⟨hz_n 1, hz_n 0, Or.inr (Or.inr (Or.inl ⟨rfl, rfl⟩)), Or.inr (Or.inl ⟨rfl, rfl⟩)⟩

theorem bEnv_sc {S : zG} {s : zD} {i l p q : Nat} {a : Int} (h : s_sc S l q = s_sc S l p) (H : bEnv S s i l p a) : bEnv S s i l q a := by
  refine ⟨H.1, H.2.1, fun v b hv => H.2.2 v b ?_⟩
  rw [← h]; exact hv
theorem bDir_g {E : Nat → Option zT} {dfs : Nat → Option Nat} {ST : Nat → Nat → Int32} {F l0 am : Nat} {S : zG} {s : zD} (st : bSta E dfs ST F S) (I : bInv S dfs ST l0 am s) {i q : Nat} (hi : i < de s) (hq : s_cl S (dl s i) q = 1) (hr : s_ro S (dl s i) q = 0) : dg s (40 * i + q) = none := by
  cases hx : dg s (40 * i + q) with
  | none => rfl
  | some m =>
    rcases ((I.2.2.2.2.2.2.2 i q hi hq).2.1 m hx).1 with ⟨ho, _⟩ | ⟨ho, _⟩
    · rcases ho with ho | ho | ho <;> omega
    · omega
-- a frame is put, a part is evaluated
def mDn (μ : zM) (f w a : Nat) (b : Int32) (n : Nat) (x : Int32) : zM := m_evaluate (mS (mA (mA μ 37 f (hz_n (4096 * w + a : Nat))) 38 f b) 18 (hz_n (f + 1 : Nat))) (hz_n n) x
theorem mDn_same {s : zD} {f w a n : Nat} {b x : Int32} : bSame (fun _ => False) s (bsN s (mDn (dm s) f w a b n x)) := by
  refine bsN_same ⟨⟨rfl, rfl, rfl, rfl, rfl⟩, fun y y1 y2 => ?_⟩
  unfold mDn
  rw [m_evaluate2, mS2, mA2n _ _ _ _ _ (by omega), mA2n _ _ _ _ _ (by omega)]
theorem mDn_fr {μ : zM} {f w a n : Nat} {b x : Int32} : (∀ j, j < f → (mDn μ f w a b n x).2 37 j = μ.2 37 j ∧ (mDn μ f w a b n x).2 38 j = μ.2 38 j) ∧ (mDn μ f w a b n x).2 37 f = hz_n (4096 * w + a : Nat) ∧ (mDn μ f w a b n x).2 38 f = b := by
  unfold mDn
  simp only [m_evaluate2, mS2, mA2]
  refine ⟨fun j hj => ?_, by simp, by simp⟩
  simp [show ¬ j = f by omega]
theorem mDn_fix {kw : zK} {mw : zM} {f0 : Nat} {κ : zK} {μ : zM} {f w a n : Nat} {b x : Int32} (hf : f0 ≤ f) (h : bFix kw mw f0 κ μ) : bFix kw mw f0 κ (mDn μ f w a b n x) := by
  refine bFix_k h (fun _ _ => rfl) (fun _ _ => rfl) ?_ ?_ ?_
  · intro y y1 y2; unfold mDn; rw [m_evaluate1 (by omega) (by omega) (by omega), mS1, if_neg (by omega)]; rfl
  · intro y hy; unfold mDn; rw [m_evaluate2, mS2, mA2n _ _ _ _ _ (by omega), mA2n _ _ _ _ _ (by omega)]
  · intro j hj; exact mDn_fr.1 j (by omega)
-- from a state with its frame: go down to a direct part
theorem bDn {E : Nat → Option zT} {dfs : Nat → Option Nat} {ST : Nat → Nat → Int32} {F l0 am f0 g wn wr : Nat} {S : zG} {kw : zK} {mw : zM} {s : zD} {μ : zM} {r : List Nat} {f1 f2 w i p q j : Nat} {b : Int32} {a : Int}
    (hF : 951 ≤ F) (st : bSta E dfs ST F S) (I : bInv S dfs ST l0 am s) (K : bStk S s ((40 * i + p) :: r)) (fx : bFix kw mw f0 (dk s) (dm s)) (h5 : (dk s).1 5 = hz_n 0) (hg : ((40 * i + p) :: r).getLast? = some g) (fr : bFr S l0 f0 s r (40 * i + p) f1) (kf : bKF S s (40 * i + p) f1 f2) (hf2 : f2 + 1 < 2150) (hn : dnp s < 1000)
    (h21 : (dm s).1 21 = hz_n 0) (hi : i < de s) (hcl : s_cl S (dl s i) p = 1) (kid : bKid ST F S (dl s i) p j q 0) (h0 : ks s (40 * i + q) = hz_n 0) (env : bEnv S s i (dl s i) q a) (cnt : bCnt S s wn wr 0 0 0 0)
    (hμ : μ = mDn (dm s) f2 w (40 * dl s i + s_nd S (dl s i) p) b (40 * dl s i + s_nd S (dl s i) q) (hz_n a))
    (wt : bFrm (bsN s μ) f2 w (40 * dl s i + s_nd S (dl s i) p) b → bW1 S (bsN s μ) i (dl s i) p (40 * i + q) f2 (f2 + 1)) :
    bOutc S dfs ST F l0 am f0 g wn wr kw mw (ghs s) (kPush (dk s) (40 * i + q) (r.length + 1)) μ := by
  have hge := bFr_ge fr
  have hle := bKF_le kf
  have hsame : bSame (fun _ => False) s (bsN s μ) := by rw [hμ]; exact mDn_same
  have hb : dnb s ≤ 950 := I.2.1.2.2.2.2.2.2.2.2.2.2.2.2.2
  have hfr : ∀ y, y < f2 → μ.2 37 y = (dm s).2 37 y ∧ μ.2 38 y = (dm s).2 38 y := by rw [hμ]; exact mDn_fr.1
  have u := bUp_same (S := S) (dfs := dfs) hsame I.2.2.2.2.2.2.1
  refine bDown (s := bsN s μ) (c := 40 * i + p) (f1 := f1) (f2 := f2) (f := f2 + 1) (i := i) (p := q) (a := a) hF st (bInv_same st I hsame) (bStk_same hsame rfl rfl K) (by rw [hμ]; exact mDn_fix (by omega) fx) h5 hg (bFr_same I (bDefs_of st I) hsame (fun _ _ => id) (fun y hy => hfr y (by omega)) fr) (bKF_same I hsame (fun y hy => (hfr y hy).1) kf)
    (Or.inr ⟨i, p, rfl, hi, hcl, wt ?_⟩) hf2 hn ?_ hi kid.1 h0 (Or.inl ⟨kid.2.2.1, by show _ = 40 * i + s_pa S (dl s i) q; rw [kid.2.1]⟩) (bDir_g st I hi kid.1 kid.2.2.1) ?_ ?_ ?_ (bEnv_mono hb u.1 env) (bCnt_same hsame cnt)
  · show μ.2 37 f2 = _ ∧ μ.2 38 f2 = _
    rw [hμ]; exact mDn_fr.2
  · show μ.1 21 = _; rw [hμ]; unfold mDn; rw [m_evaluate1 (by decide) (by decide) (by decide), mS1, if_neg (by decide)]; exact h21
  · show μ.1 18 = _; rw [hμ]; unfold mDn; rw [m_evaluate1 (by decide) (by decide) (by decide), mS1, if_pos rfl]
  · show μ.1 22 = _; rw [hμ]; rfl
  · show μ.1 23 = _; rw [hμ]; rfl
-- the first look at an application, an arithmetic, a choice, a split
theorem bSt_f {E : Nat → Option zT} {dfs : Nat → Option Nat} {ST : Nat → Nat → Int32} {F l0 am f0 g wn wr : Nat} {S : zG} {kw : zK} {mw : zM} {s : zD} {r : List Nat} {f1 f2 i p : Nat}
    (hF : 951 ≤ F) (st : bSta E dfs ST F S) (I : bInv S dfs ST l0 am s) (K : bStk S s ((40 * i + p) :: r)) (fx : bFix kw mw f0 (dk s) (dm s)) (h5 : (dk s).1 5 = hz_n 0) (hg : ((40 * i + p) :: r).getLast? = some g) (fr : bFr S l0 f0 s r (40 * i + p) f1) (kf : bKF S s (40 * i + p) f1 f2) (hf2 : f2 + 1 < 2150) (hn : dnp s < 1000)
    (h21 : (dm s).1 21 = hz_n 0) (hi : i < de s) (hcl : s_cl S (dl s i) p = 1) (ho : 6 ≤ s_op S (dl s i) p ∧ s_op S (dl s i) p ≤ 9) (vir : bVir S s i (dl s i) p) (h9 : (dk s).2.1 9 (40 * i + p) = hz_n (40 * i + p + 1 : Nat)) (h10 : (dk s).2.1 10 (40 * i + p) = hz_n (40 * i + p + 1 : Nat))
    (env : bEnv S s i (dl s i) p (da s (40 * i + p))) (r18 : (dm s).1 18 = hz_n f2) (r22 : (dm s).1 22 = hz_n (40 * dl s i + s_nd S (dl s i) p : Nat)) (r23 : (dm s).1 23 = hz_n (da s (40 * i + p))) (cnt : bCnt S s wn wr 0 0 0 0) :
    ∃ κ', g_lookAt (dk s) E (hz_n (40 * i + p : Nat)) = some κ' ∧ bOutc S dfs ST F l0 am f0 g wn wr kw mw (ghs s) κ' (dm s) := by
  obtain ⟨T, D⟩ := bDefs_of st I i hi
  obtain ⟨sh, hp, hi50, h6⟩ := zsg st I hi hcl
  have hN := D.2.2.2.2.2.2.2.2.2.2.2.2.2 p hcl
  have hl := (I.2.2.1 i hi).1
  have kid : bKid ST F S (dl s i) p 0 (p + 1) 0 ∧ s_sc S (dl s i) (p + 1) = s_sc S (dl s i) p := by
    have : s_op S (dl s i) p = 6 ∨ s_op S (dl s i) p = 7 ∨ s_op S (dl s i) p = 8 ∨ s_op S (dl s i) p = 9 := by omega
    rcases this with o | o | o | o
    · have := bSh6 sh o; exact ⟨this.2.1, this.2.2.1⟩
    · have := bSh7 sh o; exact ⟨this.2.2.1, this.2.2.2.2.2.1⟩
    · have := bSh8 sh o; exact ⟨this.2.1, this.2.2.2.2.2.2.1⟩
    · have := bSh9 sh o; exact ⟨this.2.1, this.2.2.2.2.2.2.2.2.2.2.2.2.1⟩
  have hk0 : ks s (40 * i + (p + 1)) = hz_n 0 := (vir.1 _ kid.1.1 kid.1.2.1).1 kid.1.2.2.1
  have hp1 := bKid_lt D kid.1.1
  have hlen := bStk_len st I K (d := 40 * i + (p + 1)) (by omega) hk0
  -- the class
  have hcls : g_lookAt (dk s) E (hz_n (40 * i + p : Nat)) = some (kPush (dk s) (40 * i + (p + 1)) (r.length + 1)) := by
    have q0 : g_request (dk s) (hz_n (40 * i + p + 1 : Nat)) = some (hz_n 0, kPush (dk s) (40 * i + (p + 1)) (r.length + 1)) := q_req0 (c := 40 * i + (p + 1)) (by omega) hk0 K.1 hlen
    have n0 : g_requestNumber (dk s) (hz_n (40 * i + p + 1 : Nat)) = some (hz_n 0, kPush (dk s) (40 * i + (p + 1)) (r.length + 1)) := g_rN0 (c := 40 * i + (p + 1)) (by omega) hk0 K.1 hlen
    have : s_op S (dl s i) p = 6 ∨ s_op S (dl s i) p = 7 ∨ s_op S (dl s i) p = 8 ∨ s_op S (dl s i) p = 9 := by omega
    rcases this with o | o | o | o
    · rw [g_la6 st I hi hcl o]
      unfold g_lookAtApplication
      rw [zt (40 * i + p) (by omega), zgd_t (by omega), Int.toNat_natCast, h9, q0, Option.bind_some]
      dsimp only
      rw [zn_ti (by omega), if_pos rfl]
    · rw [g_la7 st I hi hcl o]
      unfold g_lookAtArithmetic
      rw [zn1, n0, Option.bind_some]
      dsimp only
      rw [zn_ti (by omega), if_pos rfl]
    · rw [g_la8 st I hi hcl o]
      unfold g_lookAtChoice
      rw [zn1, n0, Option.bind_some]
      dsimp only
      rw [zn_ti (by omega), if_pos rfl]
    · rw [g_la9 st I hi hcl o]
      unfold g_lookAtSplit
      rw [zn1, q0, Option.bind_some]
      dsimp only
      rw [zn_ti (by omega), if_pos rfl]
  refine ⟨_, hcls, ?_⟩
  -- the reference
  have e21 : (dm s).2 21 = ST 21 := I.1.1 21 (by decide) (by decide)
  have e23 : (dm s).2 23 = ST 23 := I.1.1 23 (by decide) (by decide)
  have hstep : ∀ w, w ≤ 10 → (if s_op S (dl s i) p = 6 then 2 else if s_op S (dl s i) p = 7 then 3 else if s_op S (dl s i) p = 8 then 5 else 6) = w → m_step (dm s) F = some (mDn (dm s) f2 w (40 * dl s i + s_nd S (dl s i) p) (hz_n (da s (40 * i + p))) (40 * dl s i + s_nd S (dl s i) (p + 1)) (hz_n (da s (40 * i + p)))) := by
    intro w hw10 hw
    unfold m_step
    rw [r22, r23, zt _ (by omega), zgd_t (by omega), Int.toNat_natCast, e21, hN.2.2.2.2.2.2.2.2.1, zt (s_op S (dl s i) p) (by omega), if_neg (by omega), if_neg (by omega), if_neg (by omega), if_neg (by omega), if_neg (by omega), if_neg (by omega), r18, zt f2 (by omega), zgd_t (by omega)]
    have ew : (if (s_op S (dl s i) p : Int) = 6 then hz_n 2 else if (s_op S (dl s i) p : Int) = 7 then hz_n 3 else if (s_op S (dl s i) p : Int) = 8 then hz_n 5 else hz_n 6) = hz_n (w : Nat) := by
      rw [← hw]
      split
      · rw [if_pos (by omega)]; rfl
      · split
        · rw [if_neg (by omega), if_pos (by omega)]; rfl
        · split
          · rw [if_neg (by omega), if_neg (by omega), if_pos (by omega)]; rfl
          · rw [if_neg (by omega), if_neg (by omega), if_neg (by omega)]; rfl
    rw [ew, m_stF r18 (by omega) hw10 (by omega)]
    have hch := kid.1.2.2.2.2 (mS (mA (mA (dm s) 37 f2 (hz_n (4096 * w + (40 * dl s i + s_nd S (dl s i) p) : Nat))) 38 f2 (hz_n (da s (40 * i + p)))) 18 (hz_n (f2 + 1 : Nat))) (by rw [mS2, mA2n _ _ _ _ _ (by decide), mA2n _ _ _ _ _ (by decide)]; exact e21) (by rw [mS2, mA2n _ _ _ _ _ (by decide), mA2n _ _ _ _ _ (by decide)]; exact e23)
    have ez : hz_n ((0 : Nat) : Int) = hz_n 0 := rfl
    rw [ez] at hch
    rw [hch, Option.bind_some]
    rfl
  have env1 := bEnv_sc kid.2 env
  have hb : dnb s ≤ 950 := I.2.1.2.2.2.2.2.2.2.2.2.2.2.2.2
  have hcase : s_op S (dl s i) p = 6 ∨ s_op S (dl s i) p = 7 ∨ s_op S (dl s i) p = 8 ∨ s_op S (dl s i) p = 9 := by omega
  have henv : ∀ μ, bSame (fun _ => False) s (bsN s μ) → bEnv S (bsN s μ) i (dl s i) p (da s (40 * i + p)) := fun μ hs => bEnv_mono hb (bUp_same (S := S) (dfs := dfs) hs I.2.2.2.2.2.2.1).1 env
  rcases hcase with o | o | o | o
  · refine bOutc_run (bRun_step h21 r22 (by omega) (hstep 2 (by omega) (by rw [if_pos o]))) ?_
    refine bDn (w := 2) hF st I K fx h5 hg fr kf hf2 hn h21 hi hcl kid.1 hk0 env1 cnt rfl ?_
    intro hfm
    have h6' := bSh6 sh o
    refine Or.inr (Or.inr (Or.inl ⟨o, h9, by omega, 0, by omega, h10, ?_, Or.inl ⟨rfl, rfl, rfl, henv _ mDn_same, hfm⟩⟩))
    intro j j1 j2
    have k := h6'.2.2.2.2.2.1 (j - 1) (by omega)
    have e : j - 1 + 1 = j := by omega
    rw [e] at k
    exact (vir.1 _ k.1.1 k.1.2.1).2
  · refine bOutc_run (bRun_step h21 r22 (by omega) (hstep 3 (by omega) (by rw [if_neg (by omega), if_pos o]))) ?_
    refine bDn (w := 3) hF st I K fx h5 hg fr kf hf2 hn h21 hi hcl kid.1 hk0 env1 cnt rfl ?_
    intro hfm
    obtain ⟨_, _, k0, k1, _⟩ := bSh7 sh o
    exact Or.inr (Or.inr (Or.inr (Or.inl ⟨o, Or.inl ⟨rfl, (vir.1 _ k1.1 k1.2.1).1 k1.2.2.1, rfl, henv _ mDn_same, hfm⟩⟩)))
  · refine bOutc_run (bRun_step h21 r22 (by omega) (hstep 5 (by omega) (by rw [if_neg (by omega), if_neg (by omega), if_pos o]))) ?_
    refine bDn (w := 5) hF st I K fx h5 hg fr kf hf2 hn h21 hi hcl kid.1 hk0 env1 cnt rfl ?_
    intro hfm
    obtain ⟨_, k0, k1, k2, _⟩ := bSh8 sh o
    exact Or.inr (Or.inr (Or.inr (Or.inr (Or.inl ⟨o, Or.inl ⟨rfl, (vir.1 _ k1.1 k1.2.1).1 k1.2.2.1, (vir.1 _ k2.1 k2.2.1).1 k2.2.2.1, rfl, henv _ mDn_same, hfm⟩⟩))))
  · refine bOutc_run (bRun_step h21 r22 (by omega) (hstep 6 (by omega) (by rw [if_neg (by omega), if_neg (by omega), if_neg (by omega)]))) ?_
    refine bDn (w := 6) hF st I K fx h5 hg fr kf hf2 hn h21 hi hcl kid.1 hk0 env1 cnt rfl ?_
    intro hfm
    obtain ⟨_, k0, k1, k2, _, _, _, _, c1, c2, w1, w2, _⟩ := bSh9 sh o
    exact Or.inr (Or.inr (Or.inr (Or.inr (Or.inr (Or.inl ⟨o, Or.inl ⟨rfl, (vir.1 _ k1.1 k1.2.1).1 k1.2.2.1, (vir.1 _ k2.1 k2.2.1).1 k2.2.2.1, vir.2 _ c1 w1, vir.2 _ c2 w2, rfl, henv _ mDn_same, hfm⟩⟩)))))

theorem bStk_g {S : zG} {s s' : zD} {sk : List Nat} (h1 : dk s' = dk s) (h2 : dl s' = dl s) (h3 : de s' = de s) (K : bStk S s sk) : bStk S s' sk := by
  obtain ⟨k1, k2, k3, k4, k5⟩ := K
  have e6 : ∀ c, ks s' c = ks s c := fun c => by show (dk s').2.1 6 c = _; rw [h1]
  refine ⟨by rw [h1]; exact k1, bSk_same (by rw [h1]) k2, k3, ?_, ?_⟩
  · intro c hc; rw [e6, h2, h3]; exact k4 c hc
  · intro i p; rw [e6, h2, h3]; exact k5 i p
-- parts of the top alone are changed
theorem bKidsTop {E : Nat → Option zT} {dfs : Nat → Option Nat} {ST : Nat → Nat → Int32} {F l0 am : Nat} {S : zG} {s : zD} {r : List Nat} {Z Y B Q : Nat → Prop} {i p : Nat} (st : bSta E dfs ST F S) (I : bInv S dfs ST l0 am s) (K : bStk S s ((40 * i + p) :: r)) (hi : i < de s) (hcl : s_cl S (dl s i) p = 1)
    (hZ : ∀ x, ¬ Z x) (hQ : ∀ x, Q x → x = 40 * i + p) (hY : ∀ x, Y x → ∃ q, x = 40 * i + q ∧ s_cl S (dl s i) q = 1 ∧ s_pa S (dl s i) q = p ∧ ks s x = hz_n 0) (hB : ∀ x, B x → ∃ b, x = 40 * i + b ∧ s_cl S (dl s i) b = 2 ∧ s_ow S (dl s i) b = p) :
    (∀ x e, x ∈ r → x = 2000 ∨ ∀ i' p', x = 40 * i' + p' → i' < de s → s_cl S (dl s i') p' = 1 → bOut S s Z Y B Q i' p' e) ∧ (∀ x, x ∈ r → ¬ Y x) ∧ ¬ Y (40 * i + p) := by
  obtain ⟨n1, n2⟩ := List.nodup_cons.mp K.2.2.1
  have hp := (zsg st I hi hcl).2.1
  have hYn : ∀ x, x ∈ (40 * i + p) :: r → ¬ Y x := by
    intro x hx hy
    obtain ⟨q, _, _, _, h⟩ := hY x hy
    have := (K.2.2.2.1 x hx).1
    rw [h] at this; exact absurd this (by decide)
  refine ⟨?_, fun x hx => hYn x (List.mem_cons_of_mem _ hx), hYn _ (List.mem_cons_self ..)⟩
  intro x e hx
  refine Or.inr fun i' p' he hi' hc' => ⟨hZ _, ?_, ?_, ?_, ?_⟩
  · intro h; have := hQ _ h; rw [← he] at this; exact n1 (this ▸ hx)
  · rw [← he]; exact hYn x (List.mem_cons_of_mem _ hx)
  · intro q q1 q2
    refine ⟨fun _ _ => hZ _, ?_⟩
    intro hy
    obtain ⟨q', e1, e2, e3, _⟩ := hY _ hy
    have a1 := (zsg st I hi' q1).2.1
    have a2 := (zsg st I hi e2).2.1
    have y1 : i' = i := by omega
    subst y1
    have y2 : q' = q := by omega
    subst y2
    rw [q2] at e3
    subst e3
    exact n1 (he ▸ hx)
  · intro b b1 b2 hb
    obtain ⟨b', e1, e2, e3⟩ := hB _ hb
    obtain ⟨T, DT⟩ := bDefs_of st I i hi
    obtain ⟨T', DT'⟩ := bDefs_of st I i' hi'
    have a1 := DT'.2.2.2.2.2.2.2.2.2.2.2.2.1 b b1; have a2 := DT.2.2.2.2.2.2.2.2.2.2.2.2.1 b' e2
    have := DT.2.1; have := DT'.2.1
    have y1 : i' = i := by omega
    subst y1
    have y2 : b' = b := by omega
    subst y2
    rw [b2] at e3
    subst e3
    exact n1 (he ▸ hx)
theorem m_storeF {μ : zM} {nc : Nat} {v : Int32} (h : μ.1 16 = hz_n nc) (hn : nc < 2600) : m_store μ v = mS (mA μ 33 nc v) 16 (hz_n (nc + 1 : Nat)) := by
  unfold m_store; rw [h, zt nc (by omega), Int.toNat_natCast, zn1]
-- a pair
theorem bSt_5 {E : Nat → Option zT} {dfs : Nat → Option Nat} {ST : Nat → Nat → Int32} {F l0 am f0 g wn wr : Nat} {S : zG} {kw : zK} {mw : zM} {s : zD} {r : List Nat} {f1 f2 i p : Nat}
    (hF : 951 ≤ F) (st : bSta E dfs ST F S) (I : bInv S dfs ST l0 am s) (K : bStk S s ((40 * i + p) :: r)) (fx : bFix kw mw f0 (dk s) (dm s)) (h5 : (dk s).1 5 = hz_n 0) (hg : ((40 * i + p) :: r).getLast? = some g) (fr : bFr S l0 f0 s r (40 * i + p) f1) (kf : bKF S s (40 * i + p) f1 f2) (hf2 : f2 + 1 < 2150) (hn : dnp s < 998) (hnc : dnc s + 2 ≤ 2600)
    (h21 : (dm s).1 21 = hz_n 0) (hi : i < de s) (hcl : s_cl S (dl s i) p = 1) (ho : s_op S (dl s i) p = 5) (vir : bVir S s i (dl s i) p)
    (env : bEnv S s i (dl s i) p (da s (40 * i + p))) (r18 : (dm s).1 18 = hz_n f2) (r22 : (dm s).1 22 = hz_n (40 * dl s i + s_nd S (dl s i) p : Nat)) (r23 : (dm s).1 23 = hz_n (da s (40 * i + p))) (cnt : bCnt S s wn wr 0 0 0 0) :
    ∃ κ', g_lookAt (dk s) E (hz_n (40 * i + p : Nat)) = some κ' ∧ bOutc S dfs ST F l0 am f0 g wn wr kw mw (ghs s) κ' (dm s) := by
  obtain ⟨T, D⟩ := bDefs_of st I i hi
  obtain ⟨sh, hp, hi50, h6⟩ := zsg st I hi hcl
  have hN := D.2.2.2.2.2.2.2.2.2.2.2.2.2 p hcl
  have hl := (I.2.2.1 i hi).1
  have hkc := (K.2.2.2.1 _ (List.mem_cons_self ..)).1
  obtain ⟨_, k0, k1, sc0, sc1, hk01⟩ := bSh5 sh ho
  have hb : dnb s ≤ 950 := I.2.1.2.2.2.2.2.2.2.2.2.2.2.2.2
  have e21 : (dm s).2 21 = ST 21 := I.1.1 21 (by decide) (by decide)
  have e23 : (dm s).2 23 = ST 23 := I.1.1 23 (by decide) (by decide)
  have p0 := (zsg st I hi k0.1).2.1
  have p1 := (zsg st I hi k1.1).2.1
  -- both promises
  obtain ⟨m0, μ1, s1, q1, I1, ag1, re1, dk1, g1, u1, ⟨dl1, dd1, de1, nc1, nb1, np1, f371, f381⟩, cn1⟩ := m_promT (a := da s (40 * i + p)) hF st I ⟨⟨rfl, rfl, rfl, rfl⟩, fun _ _ _ _ => rfl, fun _ _ => rfl⟩ hi k0.1 k0.2.2.1 (vir.1 _ k0.1 k0.2.1).2 (by omega) (by rw [k0.2.1, hkc]; decide) (bEnv_sc sc0 env)
  have hks1 : ∀ x, ks s1 x = ks s x := fun x => by show (dk s1).2.1 6 x = _; rw [dk1]
  obtain ⟨m1, μ2, s2, q2, I2, ag2, re2, dk2, g2, u2, ⟨dl2, dd2, de2, nc2, nb2, np2, f372, f382⟩, cn2⟩ := m_promT (a := da s (40 * i + p)) hF st I1 ag1 (i := i) (p := s_nx S (dl s i) (p + 1)) (by rw [de1]; exact hi) (by rw [dl1]; exact k1.1) (by rw [dl1]; exact k1.2.2.1)
    (by
      have := (u1.2.2.1 (40 * i + s_nx S (dl s i) (p + 1)) (by omega)).1
      rw [this]; exact (vir.1 _ k1.1 k1.2.1).2) (by omega) (by rw [dl1, k1.2.1, hks1, hkc]; decide) (by rw [dl1]; exact bEnv_mono hb u1.1 (bEnv_sc sc1 env))
  have g0 : dg s2 (40 * i + (p + 1)) = some m0 := u2.1.1.1 _ _ g1
  have r16 : (dm s).1 16 = hz_n (dnc s) := I.2.1.2.2.2.2.2.2.2.2.2.1
  have re := bRest_trans re1 re2
  have e16 : μ2.1 16 = hz_n (dnc s) := by rw [re.1 16 (by decide) (by decide)]; exact r16
  have e33 : μ2.2 33 = (dm s).2 33 := re.2.2.1
  have nb2' : dnb s2 = dnb s := by rw [nb2, nb1]
  have nc2' : dnc s2 = dnc s := by rw [nc2, nc1]
  -- the reference's result
  generalize hμ3 : m_found (mS (mA (mS (mA μ2 33 (dnc s) (hz_n m0)) 16 (hz_n (dnc s + 1 : Nat))) 33 (dnc s + 1) (hz_n m1)) 16 (hz_n (dnc s + 2 : Nat))) (hz_n 2) (hz_n (dnc s)) = μ3
  have hstep : m_step (dm s) F = some μ3 := by
    unfold m_step
    rw [r22, r23, zt _ (by omega), zgd_t (by omega), Int.toNat_natCast, e21, hN.2.2.2.2.2.2.2.2.1, zt (s_op S (dl s i) p) (by omega), if_neg (by omega), if_neg (by omega), if_neg (by omega), if_neg (by omega), if_pos (by omega)]
    unfold m_pair
    have ez : hz_n ((0 : Nat) : Int) = hz_n 0 := rfl
    have eo : hz_n ((1 : Nat) : Int) = hz_n 1 := rfl
    have c0 := k0.2.2.2.2 (dm s) e21 e23
    have c1 := k1.2.2.2.2 μ1 (by rw [ag1.2.1 21 (by decide) (by decide) (by decide)]; exact I1.1.1 21 (by decide) (by decide)) (by rw [ag1.2.1 23 (by decide) (by decide) (by decide)]; exact I1.1.1 23 (by decide) (by decide))
    rw [ez] at c0
    rw [eo] at c1
    rw [dl1] at q2
    rw [c0, Option.bind_some, q1, Option.bind_some]
    dsimp only
    rw [c1, Option.bind_some, q2, Option.bind_some]
    dsimp only
    have s1' : m_store μ2 (hz_n m0) = mS (mA μ2 33 (dnc s) (hz_n m0)) 16 (hz_n (dnc s + 1 : Nat)) := m_storeF e16 (by omega)
    have s2' : m_store (mS (mA μ2 33 (dnc s) (hz_n m0)) 16 (hz_n (dnc s + 1 : Nat))) (hz_n m1) = mS (mA (mS (mA μ2 33 (dnc s) (hz_n m0)) 16 (hz_n (dnc s + 1 : Nat))) 33 (dnc s + 1) (hz_n m1)) 16 (hz_n (dnc s + 2 : Nat)) := m_storeF rfl (by omega)
    have t1 : (mS (mA μ2 33 (dnc s) (hz_n m0)) 16 (hz_n (dnc s + 1 : Nat))).1 16 = hz_n (dnc s + 1 : Nat) := rfl
    have t2 : (mS (mA (mS (mA μ2 33 (dnc s) (hz_n m0)) 16 (hz_n (dnc s + 1 : Nat))) 33 (dnc s + 1) (hz_n m1)) 16 (hz_n (dnc s + 2 : Nat))).1 16 = hz_n (dnc s + 2 : Nat) := rfl
    rw [s1', s2', t1, t2, e16, zt (dnc s) (by omega), zt (dnc s + 1) (by omega), zgd_t (by omega), zgd_t (by omega), zn_sub, ← hμ3]
    congr 3
    omega
  have q33 : ∀ x, μ3.2 33 x = if x = dnc s + 1 then hz_n m1 else if x = dnc s then hz_n m0 else (dm s).2 33 x := by
    intro x; rw [← hμ3]; simp only [m_found2, mS2, mA2]; simp [e33]
  have qn : ∀ b, b ≠ 33 → μ3.2 b = μ2.2 b := by
    intro b hb; rw [← hμ3, m_found2, mS2, mA2n _ _ _ _ _ hb, mS2, mA2n _ _ _ _ _ hb]
  have qs : ∀ b, b ≠ 16 → b ≠ 22 → b ≠ 24 → b ≠ 25 → μ3.1 b = μ2.1 b := by
    intro b b1 b2 b3 b4; rw [← hμ3, m_found1 b2 b3 b4, mS1, if_neg b1, mA1, mS1, if_neg b1, mA1]
  have rm : bRm s2 μ3 (dnc s + 2) (dnb s) := by
    refine ⟨⟨by omega, hnc, by omega, hb⟩, ⟨?_, ?_, ?_, ?_, ?_⟩, ?_, ?_, ?_, ?_⟩
    · rw [qs 15 (by decide) (by decide) (by decide) (by decide)]; exact ag2.1.1
    · rw [qs 19 (by decide) (by decide) (by decide) (by decide)]; exact ag2.1.2.2.1
    · rw [qs 20 (by decide) (by decide) (by decide) (by decide)]; exact ag2.1.2.2.2
    · rw [← hμ3]; rfl
    · rw [qs 17 (by decide) (by decide) (by decide) (by decide), ag2.1.2.1, I2.2.1.2.2.2.2.2.2.2.2.2.2.1, nb2']
    · intro b b1 b2; rw [qn b (by omega)]; exact ag2.2.1 b b1 (by omega) (by omega)
    · intro j hj
      rw [q33, if_neg (by omega), if_neg (by omega), ← e33]; exact ag2.2.2 j hj
    · intro k _; rw [qn 34 (by decide), qn 35 (by decide), qn 36 (by decide), ag2.2.1 34 (by decide) (by decide) (by decide), ag2.2.1 35 (by decide) (by decide) (by decide), ag2.2.1 36 (by decide) (by decide) (by decide)]; exact ⟨rfl, rfl, rfl⟩
    · intro k hk; rw [qn 36 (by decide), ag2.2.1 36 (by decide) (by decide) (by decide)]; exact I2.2.2.2.2.2.2.1 k (by omega)
  have I3 := bGrowR st I2 rm
  have u3 := bR_up (S := S) (dfs := dfs) rm I2.2.2.2.2.2.2.1
  have ky1 := bKidsTop (Z := fun _ => False) (Y := (· = 40 * i + (p + 1))) (B := fun _ => False) (Q := fun _ => False) st I K hi hcl (fun _ => id) (fun _ h => h.elim) (fun x hx => ⟨p + 1, hx, k0.1, k0.2.1, by have hx' : x = 40 * i + (p + 1) := hx; rw [hx']; exact (I.2.2.2.2.2.2.2 i _ hi k0.1).2.2 (Or.inl k0.2.2.1) (vir.1 _ k0.1 k0.2.1).2⟩) (fun _ h => h.elim)
  have K1 : bStk S s1 ((40 * i + p) :: r) := bStk_g dk1 dl1 de1 K
  have K2 : bStk S s2 ((40 * i + p) :: r) := bStk_g dk2 dl2 de2 K1
  have ky2 := bKidsTop (Z := fun _ => False) (Y := (· = 40 * i + s_nx S (dl s i) (p + 1))) (B := fun _ => False) (Q := fun _ => False) st I1 K1 (by rw [de1]; exact hi) (by rw [dl1]; exact hcl) (fun _ => id) (fun _ h => h.elim) (fun x hx => ⟨_, hx, by rw [dl1]; exact k1.1, by rw [dl1]; exact k1.2.1, by have hx' : x = 40 * i + s_nx S (dl s i) (p + 1) := hx; rw [hx', hks1]; exact (I.2.2.2.2.2.2.2 i _ hi k1.1).2.2 (Or.inl k1.2.2.1) (vir.1 _ k1.1 k1.2.1).2⟩) (fun _ h => h.elim)
  have h37 : ∀ j, (dm (bsR s2 μ3 (dnc s + 2) (dnb s))).2 37 j = (dm s).2 37 j ∧ (dm (bsR s2 μ3 (dnc s + 2) (dnb s))).2 38 j = (dm s).2 38 j := by
    intro j
    show μ3.2 37 j = _ ∧ μ3.2 38 j = _
    rw [qn 37 (by decide), qn 38 (by decide), re.2.2.2.1, re.2.2.2.2]; exact ⟨rfl, rfl⟩
  have hle := b_le I
  have fr1 : bFr S l0 f0 s1 r (40 * i + p) f1 := bFr_up hle hb u1 (bDefs_of st I) (fun l _ => by rw [dk1]) ky1.1 ky1.2.1 (fun j _ => by rw [f371, f381]; exact ⟨rfl, rfl⟩) fr
  have fr2 : bFr S l0 f0 s2 r (40 * i + p) f1 := bFr_up (by rw [de1]; exact hle) (by rw [nb1]; exact hb) u2 (bDefs_of st I1) (fun l _ => by rw [dk2]) ky2.1 ky2.2.1 (fun j _ => by rw [f372, f382]; exact ⟨rfl, rfl⟩) fr1
  have fr3 : bFr S l0 f0 (bsR s2 μ3 (dnc s + 2) (dnb s)) r (40 * i + p) f1 := bFr_up (by rw [de2, de1]; exact hle) (by rw [nb2']; exact hb) u3 (bDefs_of st I2) (fun l _ => rfl) (fun x _ _ => Or.inr fun _ _ _ _ _ => ⟨id, id, id, fun _ _ _ => ⟨fun _ _ => id, id⟩, fun _ _ _ => id⟩) (fun _ _ => id) (fun j _ => by rw [(h37 j).1, (h37 j).2, f372, f382, f371, f381]; exact ⟨rfl, rfl⟩) fr2
  have kf3 : bKF S (bsR s2 μ3 (dnc s + 2) (dnb s)) (40 * i + p) f1 f2 := by
    refine bKF_up u3 id (fun j _ => by rw [(h37 j).1, f372, f371]) (bKF_up u2 ky2.2.2 (fun j _ => by rw [f372]) (bKF_up u1 ky1.2.2 (fun j _ => by rw [f371]) kf))
  have K3 : bStk S (bsR s2 μ3 (dnc s + 2) (dnb s)) ((40 * i + p) :: r) := bStk_g (s := s2) rfl rfl rfl K2
  have cn3 : bCnt S (bsR s2 μ3 (dnc s + 2) (dnb s)) wn wr 0 2 0 0 := by
    have := bCnt_grow rm 2 (by omega) (cn2 _ _ _ _ _ _ (cn1 _ _ _ _ _ _ cnt))
    rw [nb2', Nat.sub_self] at this; exact this
  have hdl3 : dl s2 = dl s := by rw [dl2, dl1]
  have hps : psi μ3 (hz_n 2) (hz_n (dnc s)) = 2 := by unfold psi; rw [zn_ti (by omega), if_pos rfl]
  have hdk3 : dk (bsR s2 μ3 (dnc s + 2) (dnb s)) = dk s := by show dk s2 = _; rw [dk2, dk1]
  have vr : bVR S dfs (bsR s2 μ3 (dnc s + 2) (dnb s)) (hz_n 4) (hz_n (40 * i + p : Nat)) (hz_n 2) (hz_n (dnc s)) := by
    refine Or.inr (Or.inr (Or.inl ⟨rfl, rfl, i, p, dnc s, m0, m1, rfl, rfl, by show dnc s + 1 < dnc s + 2; omega, ⟨?_, ?_, ?_, g0, ?_⟩, ?_, ?_⟩))
    · show i < de s2; rw [de2, de1]; exact hi
    · show s_cl S (dl s2 i) p = 1; rw [hdl3]; exact hcl
    · show s_op S (dl s2 i) p = 5; rw [hdl3]; exact ho
    · show dg s2 (40 * i + s_nx S (dl s2 i) (p + 1)) = _; rw [hdl3]; exact g2
    · show μ3.2 33 (dnc s) = _; rw [q33, if_neg (by omega), if_pos rfl]
    · show μ3.2 33 (dnc s + 1) = _; rw [q33, if_pos rfl]
  rw [g_la5 st I hi hcl ho]
  refine ⟨_, q_keep (by omega) K.1, bOutc_run (bRun_step h21 r22 (by omega) hstep) ?_⟩
  rw [← hdk3]
  refine bOutc_gh (gh' := ghs (bsR s2 μ3 (dnc s + 2) (dnb s))) (ghL_t (ghL_g u1.1) (ghL_t (ghL_g u2.1) (ghL_g u3.1))) ?_
  refine bRet (s := bsR s2 μ3 (dnc s + 2) (dnb s)) st I3 K3 ?_ (by rw [hdk3]; exact h5) hg fr3 kf3 (by omega) ⟨rfl, ?_, ?_, ?_, ?_⟩ ?_ vr ?_ (by show bCnt S _ wn wr 0 (psi μ3 _ _) 0 0; rw [hps]; exact cn3)
  · rw [hdk3]
    refine bFix_k fx (fun _ _ => rfl) (fun _ _ => rfl) ?_ ?_ ?_
    · intro b b1 b2
      show μ3.1 b = _
      rw [qs b (by omega) (by omega) (by omega) (by omega), re.1 b (by omega) (by omega)]
    · intro b hb'
      show μ3.2 b = _
      rw [qn b (by omega)]
      by_cases e16 : b = 16
      · rw [e16]; exact re.2.1.2
      · by_cases e17 : b = 17
        · rw [e17]; exact re.2.1.1
        · rw [ag2.2.1 b (by omega) (by omega) (by omega), I2.1.1 b (by omega) (by omega), I.1.1 b (by omega) (by omega)]
    · intro j _; exact h37 j
  · show μ3.1 18 = _; rw [qs 18 (by decide) (by decide) (by decide) (by decide), re.1 18 (by decide) (by decide)]; exact r18
  · show μ3.1 22 = _; rw [← hμ3]; rfl
  · show μ3.1 24 = _; rw [← hμ3]; rfl
  · show μ3.1 25 = _; rw [← hμ3]; rfl
  · show μ3.1 21 = _; rw [qs 21 (by decide) (by decide) (by decide) (by decide), re.1 21 (by decide) (by decide)]; exact h21
  · intro m i' p' a1 a2 a3 a4 a5
    exfalso
    have a2' : i' < de s := by have : i' < de s2 := a2; rw [de2, de1] at this; exact this
    have a3' : s_cl S (dl s i') p' = 1 := by have : s_cl S (dl s2 i') p' = 1 := a3; rw [hdl3] at this; exact this
    have := (zsg st I a2' a3').2.1
    have y1 : i' = i := by omega
    have y2 : p' = p := by omega
    subst y1; subst y2
    rcases ((I3.2.2.2.2.2.2.2 i' p' a2 a3).2.1 m a5).1 with ⟨ho', _⟩ | ⟨_, ho', _⟩
    · exact a4 ho'
    · have : s_op S (dl s2 i') p' < 5 := ho'
      rw [hdl3] at this; omega
