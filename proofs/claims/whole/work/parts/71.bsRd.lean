theorem qbnd {t : Nat → Nat} {N F p : Nat} {ρ : zM} (H : qHy t N F) (h : ρ.2 0 = qTx t) (hp : p < N) (hv : 97 ≤ t p ∧ t p ≤ 122) : r_bind N ρ (hz_n p) = some (ρ.2 3 (t p - 97), mA ρ 3 (t p - 97) (hz_n p)) := by
  have hN := H.2.1
  unfold r_bind
  rw [zt p (by omega), zgd_t (by omega), Int.toNat_natCast, h]
  show zgd (0 ≤ (hz_n (t p) - hz_n 97).toInt ∧ (hz_n (t p) - hz_n 97).toInt < 26) (some (ρ.2 3 (hz_n (t p) - hz_n 97).toInt.toNat, mA ρ 3 (hz_n (t p) - hz_n 97).toInt.toNat (hz_n p))) = _
  rw [zc97 hv, zt (t p - 97) (by omega), zgd_t (by omega), Int.toNat_natCast]
theorem qunb {t : Nat → Nat} {N F p : Nat} {ρ : zM} {y : Int32} (H : qHy t N F) (h : ρ.2 0 = qTx t) (hp : p < N) (hv : 97 ≤ t p ∧ t p ≤ 122) : r_unbind N ρ (hz_n p) y = some (mA ρ 3 (t p - 97) y) := by
  have hN := H.2.1
  unfold r_unbind
  rw [zt p (by omega), zgd_t (by omega), Int.toNat_natCast, h]
  show zgd (0 ≤ (hz_n (t p) - hz_n 97).toInt ∧ (hz_n (t p) - hz_n 97).toInt < 26) (some (mA ρ 3 (hz_n (t p) - hz_n 97).toInt.toNat y)) = _
  rw [zc97 hv, zt (t p - 97) (by omega), zgd_t (by omega), Int.toNat_natCast]
theorem qA_3 (ρ μ : zM) (v : Nat) (x : Int32) : qA (mA ρ 3 v x) μ = qA ρ μ := by
  funext a p
  match a with
  | 0 => show (mA ρ 3 v x).2 0 p = ρ.2 0 p; rw [mA2n _ _ _ _ _ (by decide)]
  | 1 => show (mA ρ 3 v x).2 1 p = ρ.2 1 p; rw [mA2n _ _ _ _ _ (by decide)]
  | 2 => show (mA ρ 3 v x).2 2 p = ρ.2 2 p; rw [mA2n _ _ _ _ _ (by decide)]
  | 3 => rfl
  | 4 => rfl
  | 5 => rfl
  | _ + 6 => rfl
theorem qPre_3 {F N i k w j k' v : Nat} {ρ μ ρ' μ' : zM} {x : Int32} {C : Nat → Option (Int32 × zM)} (h : qPre F N i k w ρ μ C j k' ρ' μ') : qPre F N i k w ρ μ C j k' (mA ρ' 3 v x) μ' := by
  obtain ⟨a1, a2, a3, a4, a5, a6, a7⟩ := h
  refine ⟨a1, a2, a3, ⟨a4.1, fun p hp => ⟨?_, ?_⟩⟩, a5, a6, ?_⟩
  · rw [mA2n _ _ _ _ _ (by decide)]; exact (a4.2 p hp).1
  · rw [mA2n _ _ _ _ _ (by decide)]; exact (a4.2 p hp).2
  · rw [qA_3]; exact a7
theorem qRS_3 {t : Nat → Nat} {N i v : Nat} {sc sc' : Nat → Option Nat} {ρ : zM} {x : Int32} (h : qRS t N i sc ρ) (hs : ∀ u, u < 26 → (if u = v then x else qsc sc u) = qsc sc' u) : qRS t N i sc' (mA ρ 3 v x) := by
  obtain ⟨h1, h2, h3, h4, h5, h6⟩ := h
  refine ⟨h1, h2, by rw [mA2n _ _ _ _ _ (by decide)]; exact h3, fun u hu => ?_, fun p hp => by rw [mA2n _ _ _ _ _ (by decide)]; exact h5 p hp, h6⟩
  rw [mA2, if_pos rfl, ← hs u hu, h4 u hu]
theorem qsc_X (sc : Nat → Option Nat) (v b u : Nat) : (if u = v then hz_n b else qsc sc u) = qsc (qX sc v b) u := by
  unfold qsc qX
  by_cases h : u = v
  · rw [if_pos h, if_pos h]
  · rw [if_neg h, if_neg h]
theorem qScB_X {sc : Nat → Option Nat} {v b : Nat} (h : qScB sc) (hb : b < 40) : qScB (qX sc v b) := by
  intro u c hc
  unfold qX at hc
  by_cases e : u = v
  · rw [if_pos e] at hc; injection hc; omega
  · rw [if_neg e] at hc; exact h u c hc
-- a variable that is to be bound
theorem qVar {t : Nat → Nat} {N F i k w j k1 w1 n a wh : Nat} {sc : Nat → Option Nat} {ρ μ ρ1 μ1 : zM} {C : Nat → Option (Int32 × zM)} (H : qHy t N F) (pre : qPre F N i k w ρ μ C j k1 ρ1 μ1) (hR : qRS t N j sc ρ1) (hM : qMS t N k1 (w1 + 1) μ1) (hw : w ≤ w1 ∧ w1 < 120)
    (hn : k ≤ n ∧ n < 40) (h25 : μ1.2 25 w1 = hz_n wh) (h26 : μ1.2 26 w1 = hz_n (1040 + n : Nat)) (ha : (wh = 4 ∧ a = 22) ∨ (wh = 5 ∧ a = 23)) :
    (r_readVariable N ρ1 = some (hz_n j, mS ρ1 2 (hz_n 1)) ∧ qFlt t N i k w μ (mS ρ1 2 (hz_n 1)) C)
    ∨ (j < N ∧ (97 ≤ t j ∧ t j ≤ 122) ∧ r_readVariable N ρ1 = some (hz_n j, mS ρ1 1 (hz_n (j + 1 : Nat))) ∧ qRS t N (j + 1) sc (mS ρ1 1 (hz_n (j + 1 : Nat)))
        ∧ qMS t N k1 w1 (mA (mS μ1 14 (hz_n w1)) a (1040 + n) (hz_n (t j - 97 : Nat))) ∧ qPre F N i k w ρ μ C (j + 1) k1 (mS ρ1 1 (hz_n (j + 1 : Nat))) (mA (mS μ1 14 (hz_n w1)) a (1040 + n) (hz_n (t j - 97 : Nat)))) := by
  have hN := H.2.1
  have hjN := hR.2.2.2.2.2
  have hrv : r_readVariable N ρ1 = if 97 ≤ (if j < N then t j else 0) ∧ (if j < N then t j else 0) ≤ 122 then some (hz_n j, mS ρ1 1 (hz_n (j + 1 : Nat))) else some (hz_n j, mS ρ1 2 (hz_n 1)) := by
    unfold r_readVariable
    have hb : (if j < N then t j else 0) < 65536 := by have := H.1 j; split <;> omega
    rw [hR.2.1, zti0, if_pos rfl, qsign H hR, Option.bind_some, hR.1, zn1]
    generalize (if j < N then t j else 0) = c at *
    rw [zt c (by omega)]
    by_cases h : 97 ≤ c ∧ c ≤ 122
    · rw [if_pos (by omega), if_pos h]
    · rw [if_neg (by omega), if_neg h]
  by_cases hj : j < N
  · rw [if_pos hj] at hrv
    have ht := H.1 j
    have hst : ∀ f, qR F N μ1 j (f + 1) = if 97 ≤ t j ∧ t j ≤ 122 then qR F N (mA (mS μ1 14 (hz_n w1)) a (1040 + n) (hz_n (t j) - hz_n 97)) (j + 1) f else some (hz_n (-1 - (j : Int)), mA (mS μ1 14 (hz_n w1)) a (1040 + n) (hz_n (t j) - hz_n 97)) := by
      intro f
      rw [qR_take H hj hM hw.2, h25, h26]
      unfold m_take2
      rcases ha with ⟨rfl, rfl⟩ | ⟨rfl, rfl⟩
      · rw [zt 4 (by omega), if_neg (by omega), if_neg (by omega), if_neg (by omega), if_pos (by omega), zt (1040 + n) (by omega), zgd_t (by omega), Option.bind_some, Int.toNat_natCast, zt (t j) (by omega)]
        dsimp only
        by_cases h : 97 ≤ t j ∧ t j ≤ 122
        · have h' : (97 : Int) ≤ (t j : Int) ∧ (t j : Int) ≤ 122 := by omega
          rw [if_pos h, if_pos h', zt1, if_neg (by omega)]
        · have h' : ¬ ((97 : Int) ≤ (t j : Int) ∧ (t j : Int) ≤ 122) := by omega
          rw [if_neg h, if_neg h', zti0, if_pos rfl]
      · rw [zt 5 (by omega), if_neg (by omega), if_neg (by omega), if_neg (by omega), if_neg (by omega), zt (1040 + n) (by omega), zgd_t (by omega), Option.bind_some, Int.toNat_natCast, zt (t j) (by omega)]
        dsimp only
        by_cases h : 97 ≤ t j ∧ t j ≤ 122
        · have h' : (97 : Int) ≤ (t j : Int) ∧ (t j : Int) ≤ 122 := by omega
          rw [if_pos h, if_pos h', zt1, if_neg (by omega)]
        · have h' : ¬ ((97 : Int) ≤ (t j : Int) ∧ (t j : Int) ≤ 122) := by omega
          rw [if_neg h, if_neg h', zti0, if_pos rfl]
    have ha' : 22 ≤ a ∧ a ≤ 23 := by omega
    obtain ⟨a1, a2, a3, a4, a5, a6, a7⟩ := pre
    have hmf : ∀ x, qMF k w μ (mA (mS μ1 14 (hz_n w1)) a (1040 + n) x) := by
      intro x
      refine qMF_t a5 (k' := k) (w' := w) ⟨fun m _ h2 => by rw [mA1, mS1, if_neg h2], fun b hb => by rw [mA2n _ _ _ _ _ (by omega)]; rfl, fun b y h1 h2 h3 => ?_, fun y hy => by rw [mA2n _ _ _ _ _ (by omega)]; rfl, fun b y h1 h2 h3 => by rw [mA2n _ _ _ _ _ (by omega)]; rfl⟩ (Nat.le_refl _) (Nat.le_refl _)
      rw [mA2]
      by_cases hb : b = a
      · rw [if_pos hb, if_neg (by omega), hb]; rfl
      · rw [if_neg hb]; rfl
    by_cases h : 97 ≤ t j ∧ t j ≤ 122
    · right
      rw [if_pos h] at hrv
      rw [zc97 h] at hst
      refine ⟨hj, h, hrv, qRS_at hR hj, ⟨hM.1, rfl, fun p hp => by rw [mA2n _ _ _ _ _ (by omega)]; exact hM.2.2 p hp⟩, by omega, a2, by omega, a4, hmf _, fun f => ?_, ?_⟩
      · have : f + (j + 1 - i) = (f + 1) + (j - i) := by omega
        rw [this, a6, hst, if_pos h]
      · obtain ⟨c1, c2, c3⟩ := a7
        have e3 : ∀ x, qA (mS ρ1 1 (hz_n (j + 1 : Nat))) (mA (mS μ1 14 (hz_n w1)) a (1040 + n) (hz_n (t j - 97 : Nat))) 3 x = qA ρ1 μ1 3 x := fun x => by
          show (mA (mS μ1 14 (hz_n w1)) a (1040 + n) (hz_n (t j - 97 : Nat))).2 21 (1040 + x) = _; rw [mA2n _ _ _ _ _ (by omega)]; rfl
        have e6 : ∀ x, qA (mS ρ1 1 (hz_n (j + 1 : Nat))) (mA (mS μ1 14 (hz_n w1)) a (1040 + n) (hz_n (t j - 97 : Nat))) 6 x = qA ρ1 μ1 6 x := fun x => by
          show (mA (mS μ1 14 (hz_n w1)) a (1040 + n) (hz_n (t j - 97 : Nat))).2 24 x = _; rw [mA2n _ _ _ _ _ (by omega)]; rfl
        refine qFst_t (A := qA ρ1 μ1) (j1 := j) ⟨c1, c2, c3⟩ (qFst_r (j := j + 1)) a2 (Nat.le_refl _) (by omega) (by omega) (fun x _ _ => ⟨e3 x, e6 x⟩) (fun p _ => rfl)
    · left
      rw [if_neg h] at hrv
      refine ⟨hrv, rfl, hR.2.2.1, j, a1, by omega, hR.1, _, hmf (hz_n (t j) - hz_n 97), fun f => ?_⟩
      have : f + (N + 1 - i) = ((f + (N - j)) + 1) + (j - i) := by omega
      rw [this, a6, hst, if_neg h]
  · left
    have : j = N := by omega
    subst this
    rw [if_neg hj, if_neg (by omega)] at hrv
    refine ⟨hrv, ?_⟩
    obtain ⟨a1, a2, a3, a4, a5, a6, a7⟩ := pre
    refine ⟨rfl, hR.2.2.1, j, a1, Nat.le_refl _, hR.1, μ1, a5, fun f => ?_⟩
    have : f + (j + 1 - i) = (f + 1) + (j - i) := by omega
    rw [this, a6, qR_end H hM hw.2]
-- a letter bound to an expression
theorem qLet {t : Nat → Nat} {N F i k w g : Nat} {sc : Nat → Option Nat} {ρ μ : zM} (H : qHy t N F) (hP : qPart t F N g) (hg : g ≤ 13) (hi : i < N) (hk : k ≤ i) (hw : w ≤ 4 * (14 - (g + 1))) (hsc : qScB sc) (hR : qRS t N i sc ρ) (hM : qMS t N k w μ)
    (hc : t i = 36) : qGo t F N ((r_readWhole N (r_readPart N (g + 1)) ρ (hz_n (t i)) (hz_n (15 - g : Nat))).bind fun ρ1 => some (hz_n i, ρ1)) i k w sc ρ μ (qB F N (hz_n (t i)) μ i (15 - (g + 1))) (qQ (g + 1) sc i k) := by
  have hN := H.2.1
  have ht := H.1 i
  have hd : (15 - (g + 1) : Nat) + 1 = 15 - g := by omega
  have hd0 : ((15 - (g + 1) : Nat) : Int) ≠ 15 := by omega
  have hat1 : ρ.1 1 + hz_n 1 = hz_n (i + 1 : Nat) := by rw [hR.1, zn1]
  obtain ⟨μ0, b1, b2, b3⟩ := qBegP (i := i) (d := 15 - (g + 1)) (r := 2) (o := hz_n ((10 : Nat) : Int)) (v := hz_n 0) H (by omega) (by omega) (by omega) hM
  rw [hd] at b3
  obtain ⟨p1, p2, p3, p4⟩ := qpush (μ := μ0) (w := w + 2) (x := hz_n ((4 : Nat) : Int)) (y := hz_n (1040 + k : Nat)) (d := hz_n (15 - (g + 1) : Nat)) (by omega) b2.1.2.1
  have hnew := qNew_pu b2 p1 (by omega)
  generalize hμ1 : m_push μ0 (hz_n ((4 : Nat) : Int)) (hz_n (1040 + k : Nat)) (hz_n (15 - (g + 1) : Nat)) = μ1 at *
  have e13 : μ.1 13 + hz_n 1 - hz_n 1 = hz_n (1040 + k : Nat) := by rw [hM.1, zn_add, zn_sub]; congr 1; omega
  have hB : m_begin μ F (hz_n (t i)) (hz_n i) (hz_n (15 - (g + 1) : Nat)) = some (hz_n 1, μ1) := by
    unfold m_begin
    rw [zt (t i) (by omega), if_neg (by omega), zt (15 - (g + 1)) (by omega), if_neg hd0, if_neg (by omega), if_neg (by omega), if_neg (by omega), if_neg (by omega), if_neg (by omega), if_pos (by omega), qguard (by omega) hM, e13]
    show (m_pushE (m_add μ (hz_n ((10 : Nat) : Int)) (hz_n 0) (hz_n i)) F (hz_n ((2 : Nat) : Int)) _).bind _ = _
    rw [b1, Option.bind_some, b2.1.2.1, zt (w + 2) (by omega), zgd_t (by omega)]
    congr 1
    rw [← hμ1]; rfl
  have pre := qWPre (ρ := ρ) H hi hk hB hnew (by omega)
  have hX : ((r_readWhole N (r_readPart N (g + 1)) ρ (hz_n (t i)) (hz_n (15 - g : Nat))).bind fun ρ1 => some (hz_n i, ρ1)) = (r_readBinding N (r_readPart N (g + 1)) (mS ρ 1 (hz_n (i + 1 : Nat))) (hz_n (15 - g : Nat))).bind fun ρ1 => some (hz_n i, ρ1) := by
    unfold r_readWhole
    rw [zt (t i) (by omega), if_neg (by omega), if_neg (by omega), if_neg (by omega), if_neg (by omega), if_pos (by omega), hat1]
  rw [hX]
  have hR0 := qRS_at hR hi
  generalize hρ0 : mS ρ 1 (hz_n (i + 1 : Nat)) = ρ0 at *
  have hnx0 : ρ0.2 1 i = hz_n 0 := by rw [← hρ0]; exact hR.2.2.2.2.1 i (Nat.le_refl _)
  unfold r_readBinding
  obtain ⟨nM, nF, n1, n2, n3, n4⟩ := hnew
  rcases qVar (a := 22) (wh := 4) (n := k) H pre hR0 nM (by omega) (by omega) p2 p3 (.inl ⟨rfl, rfl⟩) with ⟨v1, v2⟩ | ⟨vj, vv, v1, v2, v3, v4⟩
  · rw [v1, Option.bind_some]
    refine ⟨hz_n i, mS ρ0 2 (hz_n 1), ?_, .inl v2⟩
    dsimp only
    rw [if_neg (by show ¬ (hz_n 1).toInt = 0; rw [zt1]; omega)]; rfl
  · rw [v1, Option.bind_some]
    dsimp only
    have h20 : ((mS ρ0 1 (hz_n (i + 1 + 1 : Nat))).1 2).toInt = 0 := by rw [v2.2.1, zti0]
    rw [if_pos h20, qbnd H v2.2.2.1 vj vv, Option.bind_some]
    dsimp only
    generalize hρ1 : mS ρ0 1 (hz_n (i + 1 + 1 : Nat)) = ρ1 at *
    generalize hμ2 : mA (mS μ1 14 (hz_n (w + 2 : Nat))) 22 (1040 + k) (hz_n (t (i + 1) - 97 : Nat)) = μ2 at *
    have hu : ρ1.2 3 (t (i + 1) - 97) = qsc sc (t (i + 1) - 97) := v2.2.2.2.1 _ (by omega)
    have hR2 : qRS t N (i + 2) (qX sc (t (i + 1) - 97) (i + 1)) (mA ρ1 3 (t (i + 1) - 97) (hz_n (i + 1 : Nat))) := qRS_3 v2 (fun u _ => qsc_X sc _ _ u)
    rw [hu]
    obtain ⟨x, ρ3, e, oc⟩ := qParts H hP hg (i := i + 2) (k := k + 1) (w := w) (c := 2) (sc := qX sc (t (i + 1) - 97) (i + 1)) (ρ := mA ρ1 3 (t (i + 1) - 97) (hz_n (i + 1 : Nat))) (μ := μ2) (by omega) (by omega) (by omega) (by omega) (qScB_X hsc (by omega)) 2 0 0 (i + 2) (k + 1) 2 _ μ2 (by omega) (qPre_r (by omega)) hR2 v3 (fun s h1 h2 => by
      rw [← hμ2, mA2n _ _ _ _ _ (by decide), mA2n _ _ _ _ _ (by decide)]
      show μ1.2 25 s = _ ∧ μ1.2 27 s = _
      rw [p1.2.2.2 25 s (by omega), p1.2.2.2 27 s (by omega)]; exact b3 s h1 h2) ⟨rfl, rfl, rfl⟩ (fun h => by omega)
    have e' : r_readParts (r_readPart N (g + 1)) (mA ρ1 3 (t (i + 1) - 97) (hz_n (i + 1 : Nat))) (hz_n 2) (hz_n (15 - g : Nat)) = some (x, ρ3) := e
    rw [e', Option.bind_some]
    dsimp only
    have hs1 : (mA ρ1 3 (t (i + 1) - 97) (hz_n (i + 1 : Nat))).1 = ρ1.1 ∧ (∀ p, p < i → (mA ρ1 3 (t (i + 1) - 97) (hz_n (i + 1 : Nat))).2 1 p = ρ1.2 1 p) ∧ (mA ρ1 3 (t (i + 1) - 97) (hz_n (i + 1 : Nat))).2 2 = ρ1.2 2 :=
      ⟨rfl, fun p _ => by rw [mA2n _ _ _ _ _ (by decide)], by rw [mA2n _ _ _ _ _ (by decide)]⟩
    rcases oc with fl | ⟨j, k', μ3, s1, s2, pre2, q, q1, q2, q3⟩
    · refine ⟨hz_n i, mA ρ3 3 (t (i + 1) - 97) (qsc sc (t (i + 1) - 97)), ?_, .inl (qFlt_s (qFlt_t v4 fl (Nat.le_refl _) (by omega)) fl.1 ?_ rfl)⟩
      · rw [qunb H fl.2.1 vj vv]; rfl
      · rw [mA2n _ _ _ _ _ (by decide)]; exact fl.2.1
    · have hj := s1.2.2.2.2.2
      have lps := qPs_lt (fun a b c d h => qW_lt h) q2
      refine ⟨hz_n i, mA ρ3 3 (t (i + 1) - 97) (qsc sc (t (i + 1) - 97)), ?_, .inr ⟨j, k', μ3, ?_, s2, qPre_3 (qPre_t v4 pre2 (Nat.le_refl _) hs1 (by omega)), rfl, by omega, ?_, ?_⟩⟩
      · rw [qunb H s1.2.2.1 vj vv]; rfl
      · refine qRS_3 s1 (fun u _ => ?_)
        by_cases hu : u = t (i + 1) - 97
        · rw [if_pos hu, hu]
        · rw [if_neg hu]; unfold qsc qX; rw [if_neg hu]
      · rw [qA_3]
        have hmf := pre2.2.2.2.2.1
        have a3 : qA ρ3 μ3 3 k = hz_n ((10 : Nat) : Int) := by
          show μ3.2 21 (1040 + k) = _
          rw [hmf.2.2.1 21 _ (by omega) (by omega) (by omega), ← hμ2, mA2n _ _ _ _ _ (by decide)]; exact n1
        have a4 : qA ρ3 μ3 4 k = hz_n (t (i + 1) - 97 : Nat) := by
          show μ3.2 22 (1040 + k) = _
          rw [hmf.2.2.1 22 _ (by omega) (by omega) (by omega), ← hμ2, mA2, if_pos rfl, if_pos rfl]
        have a6 : qA ρ3 μ3 6 k = hz_n i := by
          show μ3.2 24 k = _
          rw [hmf.2.2.2.1 k (by omega), ← hμ2, mA2n _ _ _ _ _ (by decide)]; exact n4
        refine .inr (.inr (.inr ⟨t (i + 1) - 97, q, by omega, ⟨?_, a3, a6⟩, a4, ?_, q2, q3 (by omega)⟩))
        · show ρ3.2 0 i = _; rw [s1.2.2.1, ← hc]; rfl
        · show ρ3.2 0 (i + 1) = _; rw [s1.2.2.1]; show hz_n (t (i + 1)) = _; congr 1; omega
      · rw [mA2n _ _ _ _ _ (by decide), (pre2.2.2.2.1.2 i (by omega)).1, mA2n _ _ _ _ _ (by decide), ← hρ1]
        exact hnx0

theorem qAg_G {ρ ρ' μ μ' : zM} {i j k k' : Nat} (h0 : ρ'.2 0 = ρ.2 0) (h2 : ∀ p, i ≤ p → p < j → ρ'.2 2 p = ρ.2 2 p) (h1 : ∀ p, i < p → p < j → ρ'.2 1 p = ρ.2 1 p)
    (hm : ∀ x, k ≤ x → x < k' → μ'.2 21 (1040 + x) = μ.2 21 (1040 + x) ∧ μ'.2 22 (1040 + x) = μ.2 22 (1040 + x) ∧ μ'.2 23 (1040 + x) = μ.2 23 (1040 + x) ∧ μ'.2 24 x = μ.2 24 x) : qAg (qA ρ μ) (qA ρ' μ') i j k k' :=
  ⟨fun p p1 p2 => ⟨by show ρ'.2 0 p = ρ.2 0 p; rw [h0], h2 p p1 p2, fun p3 => h1 p p3 p2⟩, fun x x1 x2 => hm x x1 x2⟩
-- parts, kept while more is read behind them
theorem qPs_on {g : Nat} {sc : Nat → Option Nat} {i k m q j k' : Nat} {ρ ρ' μ μ' : zM} (h : qPs (qW (qA ρ μ) g sc) (qA ρ μ) i k m q j k') (h0 : ρ'.2 0 = ρ.2 0) (h2 : ∀ p, i ≤ p → p < j → ρ'.2 2 p = ρ.2 2 p) (h1 : ∀ p, i ≤ p → p < j → p ≠ q → ρ'.2 1 p = ρ.2 1 p)
    (hm : ∀ x, k ≤ x → x < k' → μ'.2 21 (1040 + x) = μ.2 21 (1040 + x) ∧ μ'.2 22 (1040 + x) = μ.2 22 (1040 + x) ∧ μ'.2 23 (1040 + x) = μ.2 23 (1040 + x) ∧ μ'.2 24 x = μ.2 24 x) : qPs (qW (qA ρ' μ') g sc) (qA ρ' μ') i k m q j k' := by
  have lps := qPs_lt (fun a b c d h => qW_lt h) h
  refine qPs_ag (fun a b c d h => qW_lt h) (fun a b c d x1 x2 x3 x4 x6 x5 => ?_) (fun p p1 p2 => ?_) h
  · exact qW_ag (qAg_G h0 (fun p p1 p2 => h2 p (by omega) (by omega)) (fun p p1 p2 => h1 p (by omega) (by omega) (by omega)) (fun x y1 y2 => hm x (by omega) (by omega))) x5
  · match m with
    | 0 => have := h.1; omega
    | m + 1 => exact h1 p p1 (by omega) (by omega)
theorem qTake {t : Nat → Nat} {N F i k w g : Nat} {sc : Nat → Option Nat} {ρ μ : zM} (H : qHy t N F) (hP : qPart t F N g) (hg : g ≤ 13) (hi : i < N) (hk : k ≤ i) (hw : w ≤ 4 * (14 - (g + 1))) (hsc : qScB sc) (hR : qRS t N i sc ρ) (hM : qMS t N k w μ)
    (hc : t i = 47) : qGo t F N ((r_readWhole N (r_readPart N (g + 1)) ρ (hz_n (t i)) (hz_n (15 - g : Nat))).bind fun ρ1 => some (hz_n i, ρ1)) i k w sc ρ μ (qB F N (hz_n (t i)) μ i (15 - (g + 1))) (qQ (g + 1) sc i k) := by
  have hN := H.2.1
  have ht := H.1 i
  have hd : (15 - (g + 1) : Nat) + 1 = 15 - g := by omega
  have hd0 : ((15 - (g + 1) : Nat) : Int) ≠ 15 := by omega
  have hat1 : ρ.1 1 + hz_n 1 = hz_n (i + 1 : Nat) := by rw [hR.1, zn1]
  obtain ⟨μa, b1, b2, b3⟩ := qBegP (i := i) (d := 15 - (g + 1)) (r := 1) (o := hz_n ((9 : Nat) : Int)) (v := hz_n 0) H (by omega) (by omega) (by omega) hM
  rw [hd] at b3
  obtain ⟨p1, p2, p3, p4⟩ := qpush (μ := μa) (w := w + 1) (x := hz_n ((5 : Nat) : Int)) (y := hz_n (1040 + k : Nat)) (d := hz_n (15 - (g + 1) : Nat)) (by omega) b2.1.2.1
  have hnb := qNew_pu b2 p1 (by omega)
  generalize hμb : m_push μa (hz_n ((5 : Nat) : Int)) (hz_n (1040 + k : Nat)) (hz_n (15 - (g + 1) : Nat)) = μb at *
  obtain ⟨r1, r2, r3, r4⟩ := qpush (μ := μb) (w := w + 2) (x := hz_n ((4 : Nat) : Int)) (y := hz_n (1040 + k : Nat)) (d := hz_n (15 - (g + 1) : Nat)) (by omega) hnb.1.2.1
  have hnc := qNew_pu hnb r1 (by omega)
  generalize hμc : m_push μb (hz_n ((4 : Nat) : Int)) (hz_n (1040 + k : Nat)) (hz_n (15 - (g + 1) : Nat)) = μc at *
  obtain ⟨μ1, u1, u2, u3⟩ := qpushE (r := 2) (d := hz_n (15 - g : Nat)) H (by omega) (by omega) hnc.1.2.1
  have hnew := qNew_pu hnc u2 (by omega)
  have e13 : μ.1 13 + hz_n 1 - hz_n 1 = hz_n (1040 + k : Nat) := by rw [hM.1, zn_add, zn_sub]; congr 1; omega
  have hd1 : hz_n (15 - (g + 1) : Nat) + hz_n 1 = hz_n (15 - g : Nat) := by rw [zn1, hd]
  have hB : m_begin μ F (hz_n (t i)) (hz_n i) (hz_n (15 - (g + 1) : Nat)) = some (hz_n 1, μ1) := by
    unfold m_begin
    rw [zt (t i) (by omega), if_neg (by omega), zt (15 - (g + 1)) (by omega), if_neg hd0, if_neg (by omega), if_neg (by omega), if_neg (by omega), if_neg (by omega), if_pos (by omega), qguard (by omega) hM, e13]
    show (m_pushE (m_add μ (hz_n ((9 : Nat) : Int)) (hz_n 0) (hz_n i)) F (hz_n ((1 : Nat) : Int)) _).bind _ = _
    rw [b1, Option.bind_some]
    unfold m_begin3
    rw [b2.1.2.1, zt (w + 1) (by omega), zgd_t (by omega)]
    have e5 : m_push μa (hz_n 5) (hz_n (1040 + k : Nat)) (hz_n (15 - (g + 1) : Nat)) = μb := hμb
    rw [e5]
    unfold m_begin2
    rw [hnb.1.2.1, zt (w + 1 + 1) (by omega), zgd_t (by omega)]
    have e4 : m_push μb (hz_n 4) (hz_n (1040 + k : Nat)) (hz_n (15 - (g + 1) : Nat)) = μc := hμc
    rw [e4, hd1]
    have u1' : m_pushE μc F (hz_n 2) (hz_n (15 - g : Nat)) = some μ1 := u1
    rw [u1']; rfl
  have pre := qWPre (ρ := ρ) H hi hk hB hnew (by omega)
  -- what lies on the stack
  have k0 : μ1.2 25 w = hz_n 2 ∧ μ1.2 27 w = hz_n (15 - g : Nat) := by
    rw [u2.2.2.2 25 w (by omega), u2.2.2.2 27 w (by omega), r1.2.2.2 25 w (by omega), r1.2.2.2 27 w (by omega), p1.2.2.2 25 w (by omega), p1.2.2.2 27 w (by omega)]
    exact b3 w (by omega) (by omega)
  have k1 : μ1.2 25 (w + 1) = hz_n ((5 : Nat) : Int) ∧ μ1.2 26 (w + 1) = hz_n (1040 + k : Nat) := by
    rw [u2.2.2.2 25 _ (by omega), u2.2.2.2 26 _ (by omega), r1.2.2.2 25 _ (by omega), r1.2.2.2 26 _ (by omega)]
    exact ⟨p2, p3⟩
  have k2 : μ1.2 25 (w + 2) = hz_n ((4 : Nat) : Int) ∧ μ1.2 26 (w + 2) = hz_n (1040 + k : Nat) := by
    rw [u2.2.2.2 25 _ (by omega), u2.2.2.2 26 _ (by omega)]
    exact ⟨r2, r3⟩
  have hX : ((r_readWhole N (r_readPart N (g + 1)) ρ (hz_n (t i)) (hz_n (15 - g : Nat))).bind fun ρ1 => some (hz_n i, ρ1)) = (r_readSplit N (r_readPart N (g + 1)) (mS ρ 1 (hz_n (i + 1 : Nat))) (hz_n (15 - g : Nat))).bind fun ρ1 => some (hz_n i, ρ1) := by
    unfold r_readWhole
    rw [zt (t i) (by omega), if_neg (by omega), if_neg (by omega), if_neg (by omega), if_pos (by omega), hat1]
  rw [hX]
  have hR0 := qRS_at hR hi
  generalize hρ0 : mS ρ 1 (hz_n (i + 1 : Nat)) = ρ0 at *
  have hnx0 : ρ0.2 1 i = hz_n 0 := by rw [← hρ0]; exact hR.2.2.2.2.1 i (Nat.le_refl _)
  unfold r_readSplit
  obtain ⟨nM, nF, n1, n2, n3, n4⟩ := hnew
  obtain ⟨x, ρ3, e, oc⟩ := qParts H hP hg (i := i + 1) (k := k + 1) (w := w + 3) (c := 2) (sc := sc) (ρ := ρ0) (μ := μ1) (by omega) (by omega) (by omega) (by omega) hsc 2 0 0 (i + 1) (k + 1) 2 _ μ1 (by omega) (qPre_r (by omega)) hR0 nM (fun s h1 h2 => u3 s h1 h2) ⟨rfl, rfl, rfl⟩ (fun h => by omega)
  have e' : r_readParts (r_readPart N (g + 1)) ρ0 (hz_n 2) (hz_n (15 - g : Nat)) = some (x, ρ3) := e
  rw [e', Option.bind_some]
  dsimp only
  rcases oc with fl | ⟨j2, kk, μ2, s1, s2, pre2, q, q1, q2, q3⟩
  · have bad1 : qBad t ρ3 := ⟨fl.1, fl.2.1⟩
    rw [qrv_bad bad1, Option.bind_some]
    dsimp only
    rw [qrv_bad (qbad_S bad1.2), Option.bind_some]
    dsimp only
    refine ⟨hz_n i, mS (mS ρ3 2 (hz_n 1)) 2 (hz_n 1), ?_, .inl (qFlt_s (qFlt_t pre fl (by omega) (by omega)) rfl fl.2.1 rfl)⟩
    rw [if_neg (by show ¬ (hz_n 1).toInt = 0; rw [zt1]; omega)]; rfl
  · have lps := qPs_lt (fun a b c d h => qW_lt h) q2
    have hj2 := s1.2.2.2.2.2
    have preA := qPre_t pre pre2 (by omega) ⟨rfl, fun _ _ => rfl, rfl⟩ (by omega)
    have hmf2 := pre2.2.2.2.2.1
    have f25 : ∀ s, s < w + 3 → μ2.2 25 s = μ1.2 25 s := fun s hs => hmf2.2.2.2.2 25 s (by omega) (by omega) hs
    have f26 : ∀ s, s < w + 3 → μ2.2 26 s = μ1.2 26 s := fun s hs => hmf2.2.2.2.2 26 s (by omega) (by omega) hs
    have f27 : ∀ s, s < w + 3 → μ2.2 27 s = μ1.2 27 s := fun s hs => hmf2.2.2.2.2 27 s (by omega) (by omega) hs
    rcases qVar (a := 22) (wh := 4) (n := k) (w1 := w + 2) H preA s1 s2 (by omega) (by omega) (by rw [f25 _ (by omega)]; exact k2.1) (by rw [f26 _ (by omega)]; exact k2.2) (.inl ⟨rfl, rfl⟩) with ⟨v1, v2⟩ | ⟨vj, vv, v1, v2, v3, v4⟩
    · rw [v1, Option.bind_some]
      dsimp only
      rw [qrv_bad (qbad_S s1.2.2.1), Option.bind_some]
      dsimp only
      refine ⟨hz_n i, mS (mS ρ3 2 (hz_n 1)) 2 (hz_n 1), ?_, .inl (qFlt_s v2 rfl s1.2.2.1 rfl)⟩
      rw [if_neg (by show ¬ (hz_n 1).toInt = 0; rw [zt1]; omega)]; rfl
    · rw [v1, Option.bind_some]
      dsimp only
      generalize hμ3 : mA (mS μ2 14 (hz_n (w + 2 : Nat))) 22 (1040 + k) (hz_n (t j2 - 97 : Nat)) = μ3 at *
      generalize hρ4 : mS ρ3 1 (hz_n (j2 + 1 : Nat)) = ρ4 at *
      have g25 : ∀ a, a ≠ 22 → μ3.2 a = μ2.2 a := fun a ha => by rw [← hμ3, mA2n _ _ _ _ _ ha]; rfl
      rcases qVar (a := 23) (wh := 5) (n := k) (w1 := w + 1) H v4 v2 v3 (by omega) (by omega) (by rw [g25 25 (by omega), f25 _ (by omega)]; exact k1.1) (by rw [g25 26 (by omega), f26 _ (by omega)]; exact k1.2) (.inr ⟨rfl, rfl⟩) with ⟨y1, y2⟩ | ⟨yj, yv, y1, y2, y3, y4⟩
      · rw [y1, Option.bind_some]
        dsimp only
        refine ⟨hz_n i, mS ρ4 2 (hz_n 1), ?_, .inl y2⟩
        rw [if_neg (by show ¬ (hz_n 1).toInt = 0; rw [zt1]; omega)]; rfl
      · rw [y1, Option.bind_some]
        dsimp only
        have h20 : ((mS ρ4 1 (hz_n (j2 + 1 + 1 : Nat))).1 2).toInt = 0 := by rw [y2.2.1, zti0]
        rw [if_pos h20, qbnd H y2.2.2.1 vj vv, Option.bind_some]
        dsimp only
        generalize hμ4 : mA (mS μ3 14 (hz_n (w + 1 : Nat))) 23 (1040 + k) (hz_n (t (j2 + 1) - 97 : Nat)) = μ4 at *
        generalize hρ5 : mS ρ4 1 (hz_n (j2 + 1 + 1 : Nat)) = ρ5 at *
        have hR6 : qRS t N (j2 + 2) (qX sc (t j2 - 97) j2) (mA ρ5 3 (t j2 - 97) (hz_n j2)) := qRS_3 y2 (fun u _ => qsc_X sc _ _ u)
        have hu1 : ρ5.2 3 (t j2 - 97) = qsc sc (t j2 - 97) := y2.2.2.2.1 _ (by omega)
        rw [qbnd H hR6.2.2.1 yj yv, Option.bind_some]
        dsimp only
        have hu2 : (mA ρ5 3 (t j2 - 97) (hz_n j2)).2 3 (t (j2 + 1) - 97) = qsc (qX sc (t j2 - 97) j2) (t (j2 + 1) - 97) := hR6.2.2.2.1 _ (by omega)
        have hR7 : qRS t N (j2 + 2) (qX (qX sc (t j2 - 97) j2) (t (j2 + 1) - 97) (j2 + 1)) (mA (mA ρ5 3 (t j2 - 97) (hz_n j2)) 3 (t (j2 + 1) - 97) (hz_n (j2 + 1 : Nat))) := qRS_3 hR6 (fun u _ => qsc_X _ _ _ u)
        rw [hu1, hu2, q1]
        have ax : ∀ a, a ≠ 3 → (mA (mA ρ5 3 (t j2 - 97) (hz_n j2)) 3 (t (j2 + 1) - 97) (hz_n (j2 + 1 : Nat))).2 a = ρ5.2 a := fun a ha => by rw [mA2n _ _ _ _ _ ha, mA2n _ _ _ _ _ ha]
        generalize hρ7 : mA (mA ρ5 3 (t j2 - 97) (hz_n j2)) 3 (t (j2 + 1) - 97) (hz_n (j2 + 1 : Nat)) = ρ7 at *
        have a71 : ρ7.1 = ρ5.1 := by rw [← hρ7]; rfl
        have g4 : ∀ a, a ≠ 22 → a ≠ 23 → μ4.2 a = μ2.2 a := fun a ha hb => by rw [← hμ4, mA2n _ _ _ _ _ hb]; exact g25 a ha
        obtain ⟨z, ρ8, e8, oc8⟩ := hP (j2 + 2) kk w q (qX (qX sc (t j2 - 97) j2) (t (j2 + 1) - 97) (j2 + 1)) ρ7 μ4 (.inr (by omega)) y4.2.2.1 (by omega) (qScB_X (qScB_X hsc (by omega)) (by omega)) hR7 y3
          (by rw [g4 25 (by decide) (by decide), f25 w (by omega)]; exact k0.1) (by rw [g4 27 (by decide) (by decide), f27 w (by omega)]; exact k0.2)
        rw [e8, Option.bind_some]
        dsimp only
        rcases oc8 with fl | ⟨j, k', μ5, c1, c2, pre8, cq⟩
        · have t9 : (mA ρ8 3 (t (j2 + 1) - 97) (qsc (qX sc (t j2 - 97) j2) (t (j2 + 1) - 97))).2 0 = qTx t := by rw [mA2n _ _ _ _ _ (by decide)]; exact fl.2.1
          rw [qunb H fl.2.1 yj yv, Option.bind_some, qunb H t9 vj vv]
          refine ⟨hz_n i, _, rfl, .inl (qFlt_s (qFlt_t y4 fl (Nat.le_refl _) (by omega)) fl.1 ?_ rfl)⟩
          rw [mA2n _ _ _ _ _ (by decide)]; exact t9
        · have hjN := c1.2.2.2.2.2
          obtain ⟨d1, d2, d3, d4⟩ := cq
          have t9 : (mA ρ8 3 (t (j2 + 1) - 97) (qsc (qX sc (t j2 - 97) j2) (t (j2 + 1) - 97))).2 0 = qTx t := by rw [mA2n _ _ _ _ _ (by decide)]; exact c1.2.2.1
          rw [qunb H c1.2.2.1 yj yv, Option.bind_some, qunb H t9 vj vv]
          have hrf8 := pre8.2.2.2.1.2
          have hmf8 := pre8.2.2.2.2.1
          have o1 : ∀ p, p < j2 + 2 → p ≠ q → ρ8.2 1 p = ρ3.2 1 p := fun p hp hq => by
            rw [(hrf8 p hp).1, qNx3 _ _ _ _ hq, ax 1 (by decide), ← hρ5, ← hρ4]; rfl
          have o2 : ∀ p, p < j2 + 2 → ρ8.2 2 p = ρ3.2 2 p := fun p hp => by
            rw [(hrf8 p hp).2, qNx2 _ _ _ _ (by decide), ax 2 (by decide), ← hρ5, ← hρ4]; rfl
          refine ⟨hz_n i, _, rfl, .inr ⟨j, k', μ5, ?_, c2, qPre_3 (qPre_3 (qPre_t y4 pre8 (Nat.le_refl _) ⟨?_, fun p hp => ?_, ?_⟩ (by omega))), rfl, by omega, ?_, ?_⟩⟩
          · refine qRS_3 (qRS_3 c1 (sc' := qX sc (t j2 - 97) j2) (fun u _ => ?_)) (fun u _ => ?_)
            · by_cases hu : u = t (j2 + 1) - 97
              · rw [if_pos hu, hu]
              · rw [if_neg hu]; unfold qsc; rw [qX, if_neg hu]
            · by_cases hu : u = t j2 - 97
              · rw [if_pos hu, hu]
              · rw [if_neg hu]; unfold qsc; rw [qX, if_neg hu]
          · rw [qNx1, a71]
          · rw [qNx3 _ _ _ _ (by omega), ax 1 (by decide)]
          · rw [qNx2 _ _ _ _ (by decide), ax 2 (by decide)]
          · rw [qA_3, qA_3]
            have a3 : qA ρ8 μ5 3 k = hz_n ((9 : Nat) : Int) := by
              show μ5.2 21 (1040 + k) = _
              rw [hmf8.2.2.1 21 _ (by omega) (by omega) (by omega), g4 21 (by decide) (by decide), hmf2.2.2.1 21 _ (by omega) (by omega) (by omega)]; exact n1
            have a4 : qA ρ8 μ5 4 k = hz_n (t j2 - 97 : Nat) := by
              show μ5.2 22 (1040 + k) = _
              rw [hmf8.2.2.1 22 _ (by omega) (by omega) (by omega), ← hμ4, mA2n _ _ _ _ _ (by decide)]
              show μ3.2 22 _ = _
              rw [← hμ3, mA2, if_pos rfl, if_pos rfl]
            have a5 : qA ρ8 μ5 5 k = hz_n (t (j2 + 1) - 97 : Nat) := by
              show μ5.2 23 (1040 + k) = _
              rw [hmf8.2.2.1 23 _ (by omega) (by omega) (by omega), ← hμ4, mA2, if_pos rfl, if_pos rfl]
            have a6 : qA ρ8 μ5 6 k = hz_n i := by
              show μ5.2 24 k = _
              rw [hmf8.2.2.2.1 k (by omega), g4 24 (by decide) (by decide), hmf2.2.2.2.1 k (by omega)]; exact n4
            refine .inr (.inr (.inl ⟨t j2 - 97, t (j2 + 1) - 97, q, j2, kk, by omega, by omega, ⟨?_, a3, a6⟩, a4, a5, qPs_on q2 (by rw [c1.2.2.1, s1.2.2.1]) (fun p p1 p2 => o2 p (by omega)) (fun p p1 p2 p3 => o1 p (by omega) p3) (fun x x1 x2 => ?_), ?_, ?_, ?_, d3, d4⟩))
            · show ρ8.2 0 i = _; rw [c1.2.2.1, ← hc]; rfl
            · rw [hmf8.2.2.1 21 _ (by omega) (by omega) (by omega), hmf8.2.2.1 22 _ (by omega) (by omega) (by omega), hmf8.2.2.1 23 _ (by omega) (by omega) (by omega), hmf8.2.2.2.1 x (by omega)]
              refine ⟨by rw [g4 21 (by decide) (by decide)], ?_, ?_, by rw [g4 24 (by decide) (by decide)]⟩
              · rw [← hμ4, mA2n _ _ _ _ _ (by decide)]
                show μ3.2 22 _ = _
                rw [← hμ3, mA2, if_pos rfl, if_neg (by omega)]; rfl
              · rw [← hμ4, mA2, if_pos rfl, if_neg (by omega)]
                show μ3.2 23 _ = _
                rw [g25 23 (by decide)]
            · show ρ8.2 1 q = _
              rw [(hrf8 q (by omega)).1, qNx4 _ _ _ (by omega)]
            · show ρ8.2 0 j2 = _; rw [c1.2.2.1]; show hz_n (t j2) = _; congr 1; omega
            · show ρ8.2 0 (j2 + 1) = _; rw [c1.2.2.1]; show hz_n (t (j2 + 1)) = _; congr 1; omega
          · rw [mA2n _ _ _ _ _ (by decide), mA2n _ _ _ _ _ (by decide), o1 i (by omega) (by omega), (pre2.2.2.2.1.2 i (by omega)).1]
            exact hnx0

theorem qrp_eq {t : Nat → Nat} {F N g i q : Nat} {sc : Nat → Option Nat} {ρ : zM} {y : Int32} (H : qHy t N F) (hR : qRS t N i sc ρ) (hq : q = 0 ∨ q < i) : r_readPart N (g + 1) ρ (hz_n q) y = r_rq N (r_readPart N g) (qNx ρ q i) (hz_n i) y := by
  have hN := H.2.1
  show r_rp1 N (r_readPart N g) ρ _ _ = _
  have hi := hR.2.2.2.2.2
  unfold r_rp1 qNx
  rw [hR.2.1, zti0, if_pos rfl, hR.1, zt q (by omega)]
  by_cases h0 : q = 0
  · rw [if_pos (by omega), if_pos h0]
  · rw [if_neg (by omega), if_neg h0, zgd_t (by omega), Int.toNat_natCast]
theorem qrq_close {t : Nat → Nat} {N F j : Nat} {sc : Nat → Option Nat} {ρ : zM} {P : zM → Int32 → Int32 → Option (Int32 × zM)} {a y : Int32} (H : qHy t N F) (h : qRS t N j sc ρ) (hj : j < N) (ht : t j = 41) : r_rq N P ρ a y = some (a, mS ρ 2 (hz_n 1)) := by
  unfold r_rq
  rw [qsign H h, if_pos hj, Option.bind_some, ht, zt 41 (by omega), if_neg (by omega), if_neg (by omega), if_neg (by omega), if_neg (by omega)]
  by_cases hy : 15 ≤ y.toInt
  · rw [if_pos hy]
  · rw [if_neg hy]
    unfold r_readWhole
    rw [zt 41 (by omega), if_neg (by omega), if_neg (by omega), if_neg (by omega), if_neg (by omega), if_neg (by omega)]; rfl
theorem qPre_tC {F N i k w w1 j1 k1 j2 k2 : Nat} {ρ μ ρ1 ρs μ1 μs ρ2 μ2 : zM} {C C1 : Nat → Option (Int32 × zM)} (h : qPre F N i k w ρ μ C j1 k1 ρ1 μ1) (hC : ∀ f, qR F N μ1 j1 (f + 1) = C1 (f + 1)) (hm : qMF k w μ1 μs) (h' : qPre F N j1 k1 w1 ρs μs C1 j2 k2 ρ2 μ2) (hjj : j1 < j2)
    (hw : w ≤ w1) (hs : ρs.1 = ρ1.1 ∧ (∀ p, p < i → ρs.2 1 p = ρ1.2 1 p) ∧ ρs.2 2 = ρ1.2 2) (hx : ∀ x, k ≤ x → x < k1 → μs.2 21 (1040 + x) = μ1.2 21 (1040 + x) ∧ μs.2 24 x = μ1.2 24 x) (hj : j2 ≤ 40) : qPre F N i k w ρ μ C j2 k2 ρ2 μ2 := by
  obtain ⟨a1, a2, a3, a4, a5, a6, a7⟩ := h
  obtain ⟨b1, b2, b3, b4, b5, b6, b7⟩ := h'
  obtain ⟨s1, s2, s3⟩ := hs
  refine ⟨by omega, by omega, b3, ⟨?_, fun p hp => ⟨?_, ?_⟩⟩, qMF_t a5 (qMF_t hm b5 a2 hw) (Nat.le_refl _) (Nat.le_refl _), fun f => ?_, ?_⟩
  · rw [b4.1, s1]; exact a4.1
  · rw [(b4.2 p (by omega)).1, s2 p hp]; exact (a4.2 p hp).1
  · rw [(b4.2 p (by omega)).2, s3]; exact (a4.2 p hp).2
  · have : f + (j2 - i) = (f + (j2 - j1)) + (j1 - i) := by omega
    rw [this, a6]
    have e2 : f + (j2 - j1) = (f + (j2 - j1 - 1)) + 1 := by omega
    rw [e2, hC, ← e2, b6]
  · rw [s1] at b7
    refine qFst_t a7 b7 a2 b2 b1 hj (fun x h1 h2 => ?_) (fun p hp => ?_)
    · exact ⟨(b5.2.2.1 21 _ (by omega) (by omega) (by omega)).trans (hx x h1 h2).1, (b5.2.2.2.1 x h2).trans (hx x h1 h2).2⟩
    · show ρ2.2 2 p = ρ1.2 2 p
      rw [(b4.2 p hp).2, s3]
-- an application, so many arguments of it read
def qArSt (t : Nat → Nat) (F N g i k w : Nat) (sc : Nat → Option Nat) (ρ μ : zM) (C : Nat → Option (Int32 × zM)) (m q j k1 : Nat) (ρ1 μ1 : zM) : Prop :=
  qPre F N i k w ρ μ C j k1 ρ1 μ1 ∧ qRS t N j sc ρ1 ∧ qMS t N k1 (w + 1) μ1 ∧ (μ1.2 25 w = hz_n ((3 : Nat) : Int) ∧ μ1.2 26 w = hz_n (1040 + k : Nat) ∧ μ1.2 27 w = hz_n (15 - (g + 1) : Nat))
  ∧ (μ1.2 21 (1040 + k) = hz_n ((6 : Nat) : Int) ∧ μ1.2 22 (1040 + k) = hz_n 0 ∧ μ1.2 23 (1040 + k) = hz_n m ∧ μ1.2 24 k = hz_n i)
  ∧ qPs (qW (qA ρ1 μ1) g sc) (qA ρ1 μ1) (i + 1) (k + 1) (m + 1) q j k1 ∧ ρ1.2 1 q = hz_n 0 ∧ ρ1.2 1 i = hz_n 0
theorem qArStep {t : Nat → Nat} {F N g i k w m q j k1 : Nat} {sc : Nat → Option Nat} {ρ μ ρ1 μ1 : zM} {C : Nat → Option (Int32 × zM)} (H : qHy t N F) (hP : qClaim t F N g) (hg : g ≤ 13) (hk : k < 40) (hw : w ≤ 4 * (14 - (g + 1))) (hsc : qScB sc) (h : qArSt t F N g i k w sc ρ μ C m q j k1 ρ1 μ1) (hm : m ≤ 3) (hcl : m = 0 ∨ ¬ j < N ∨ t j ≠ 41) :
    ∃ x ρ2, r_readPart N (g + 1) ρ1 (hz_n q) (hz_n (15 - g : Nat)) = some (x, ρ2) ∧ (qFlt t N i k w μ ρ2 C ∨ ∃ j2 k2 μ2, x = hz_n j ∧ qArSt t F N g i k w sc ρ μ C (m + 1) j j2 k2 ρ2 μ2) := by
  obtain ⟨pre, hR, hM, ⟨t1, t2, t3⟩, ⟨n1, n2, n3, n4⟩, ps, hnq, hni⟩ := h
  have hN := H.2.1
  have hjN := hR.2.2.2.2.2
  have lps := qPs_lt (fun a b c d h => qW_lt h) ps
  have hq : q = 0 ∨ q < j := by omega
  have hR' := qNx_RS hR hq
  have hd : (15 - (g + 1) : Nat) + 1 = 15 - g := by omega
  rw [qrp_eq H hR hq]
  by_cases hj : j < N
  · have ht := H.1 j
    by_cases h41 : t j = 41
    · have hm0 : m = 0 := by omega
      subst hm0
      refine ⟨_, _, qrq_close H hR' hj h41, .inl ?_⟩
      obtain ⟨a1, a2, a3, a4, a5, a6, a7⟩ := pre
      refine ⟨rfl, hR'.2.2.1, j, a1, by omega, hR'.1, mS μ1 14 (hz_n w), qMF_t a5 (k' := k) (w' := w) ⟨fun m _ h2 => by rw [mS1, if_neg h2], fun _ _ => rfl, fun _ _ _ _ _ => rfl, fun _ _ => rfl, fun _ _ _ _ _ => rfl⟩ (Nat.le_refl _) (Nat.le_refl _), fun f => ?_⟩
      have : f + (N + 1 - i) = ((f + (N - j)) + 1) + (j - i) := by omega
      rw [this, a6, qR_take H hj hM (by omega), t1, t2, t3, h41]
      unfold m_take2
      rw [zt 3 (by omega), if_neg (by omega), if_neg (by omega), if_pos (by omega), zt (1040 + k) (by omega), zgd_t (by omega), zt 41 (by omega), if_pos (by omega), Int.toNat_natCast]
      have e0 : ((mS μ1 14 (hz_n w)).2 23 (1040 + k)).toInt ≤ 0 := by
        show (μ1.2 23 (1040 + k)).toInt ≤ 0
        rw [n3, zt 0 (by omega)]; omega
      rw [if_pos e0, Option.bind_some]
      dsimp only
      rw [zti0, if_pos rfl]
    · -- one argument more
      have hcol : (t j : Int) ≠ 41 := by omega
      generalize hμs : m_push (mA (mS μ1 14 (hz_n w)) 23 (1040 + k) (hz_n (m + 1 : Nat))) (hz_n ((3 : Nat) : Int)) (hz_n (1040 + k : Nat)) (hz_n (15 - (g + 1) : Nat)) = μs
      obtain ⟨p1, p2, p3, p4⟩ := qpush (μ := mA (mS μ1 14 (hz_n w)) 23 (1040 + k) (hz_n (m + 1 : Nat))) (w := w) (x := hz_n ((3 : Nat) : Int)) (y := hz_n (1040 + k : Nat)) (d := hz_n (15 - (g + 1) : Nat)) (by omega) rfl
      rw [hμs] at p1 p2 p3 p4
      have hC : ∀ f, qR F N μ1 j (f + 1) = qB F N (hz_n (t j)) μs j (15 - g) (f + 1) := by
        intro f
        rw [qR_take H hj hM (by omega), t1, t2, t3, qB_1]
        unfold m_take2
        rw [zt 3 (by omega), if_neg (by omega), if_neg (by omega), if_pos (by omega), zt (1040 + k) (by omega), zgd_t (by omega), zt (t j) (by omega), if_neg hcol, Int.toNat_natCast]
        have e1 : (mS μ1 14 (hz_n w)).2 23 (1040 + k) = hz_n m := n3
        rw [e1, zt m (by omega), if_neg (by omega), zn1]
        have e2 : ((mA (mS μ1 14 (hz_n w)) 23 (1040 + k) (hz_n (m + 1 : Nat))).1 14).toInt = w := by
          show (hz_n w).toInt = w; rw [zt w (by omega)]
        rw [e2, zgd_t (by omega), zn1, hd]
        have e3 : m_push (mA (mS μ1 14 (hz_n w)) 23 (1040 + k) (hz_n (m + 1 : Nat))) (hz_n 3) (hz_n (1040 + k : Nat)) (hz_n (15 - (g + 1) : Nat)) = μs := hμs
        rw [e3]
      have sA : ∀ a, a < 23 ∨ a = 24 ∨ 27 < a → μs.2 a = μ1.2 a := fun a ha => by rw [p1.2.2.1 a (by omega), mA2n _ _ _ _ _ (by omega)]; rfl
      have sB : ∀ x, x ≠ 1040 + k → μs.2 23 x = μ1.2 23 x := fun x hx => by rw [p1.2.2.1 23 (by omega), mA2, if_pos rfl, if_neg hx]; rfl
      have sC : μs.2 23 (1040 + k) = hz_n (m + 1 : Nat) := by rw [p1.2.2.1 23 (by omega), mA2, if_pos rfl, if_pos rfl]
      have hmf : qMF k w μ1 μs := by
        refine ⟨fun n h1 h2 => ?_, fun a ha => sA a (by omega), fun a x h1 h2 h3 => ?_, fun x hx => by rw [sA 24 (by omega)], fun a s h1 h2 h3 => ?_⟩
        · rw [p1.1 n h2]; show (if n = 14 then _ else μ1.1 n) = _; rw [if_neg h2]
        · by_cases ha : a = 23
          · subst ha; exact sB x (by omega)
          · rw [sA a (by omega)]
        · rw [p1.2.2.2 a s h3, mA2n _ _ _ _ _ (by omega)]; rfl
      have hMs : qMS t N k1 (w + 1) μs := by
        refine ⟨?_, p1.2.1, fun p hp => by rw [sA 16 (by omega)]; exact hM.2.2 p hp⟩
        rw [p1.1 13 (by decide)]; exact hM.1
      obtain ⟨x, ρ2, e, oc⟩ := hP j k1 (w + 1) sc (qNx ρ1 q j) μs hj pre.2.2.1 (by omega) hsc hR' hMs
      refine ⟨x, ρ2, e, ?_⟩
      rcases oc with fl | ⟨j2, k2, μ2, s1, s2, pre2, c1, c2, c3, c4⟩
      · left
        obtain ⟨b1, b2, jj, j3, j4, j5, μ', m1, m2⟩ := fl
        obtain ⟨a1, a2, a3, a4, a5, a6, a7⟩ := pre
        refine ⟨b1, b2, jj, by omega, j4, j5, μ', qMF_t a5 (qMF_t hmf m1 a2 (by omega)) (Nat.le_refl _) (Nat.le_refl _), fun f => ?_⟩
        have : f + (N + 1 - i) = (f + (N + 1 - j)) + (j - i) := by omega
        rw [this, a6]
        have e2 : f + (N + 1 - j) = (f + (N - j)) + 1 := by omega
        rw [e2, hC, ← e2, m2]
      · right
        have hj2 := s1.2.2.2.2.2
        have hmf2 := pre2.2.2.2.2.1
        have hrf2 := pre2.2.2.2.1.2
        have lw := qW_lt c3
        refine ⟨j2, k2, μ2, c1, qPre_tC pre hC hmf pre2 c2 (by omega) ⟨qNx1 _ _ _, fun p hp => qNx3 _ _ _ _ (by omega), qNx2 _ _ _ _ (by decide)⟩ (fun x _ _ => ⟨by rw [sA 21 (by omega)], by rw [sA 24 (by omega)]⟩) (by omega), s1, s2, ⟨?_, ?_, ?_⟩, ⟨?_, ?_, ?_, ?_⟩, ⟨q, k1, qPs_on ps ?_ (fun p p1 p2 => ?_) (fun p p1 p2 p3 => ?_) (fun x x1 x2 => ⟨?_, ?_, ?_, ?_⟩), .inr ?_, c3⟩, c4, ?_⟩
        · rw [hmf2.2.2.2.2 25 w (by omega) (by omega) (by omega)]; exact p2
        · rw [hmf2.2.2.2.2 26 w (by omega) (by omega) (by omega)]; exact p3
        · rw [hmf2.2.2.2.2 27 w (by omega) (by omega) (by omega)]; exact p4
        · rw [hmf2.2.2.1 21 _ (by omega) (by omega) (by omega), sA 21 (by omega)]; exact n1
        · rw [hmf2.2.2.1 22 _ (by omega) (by omega) (by omega), sA 22 (by omega)]; exact n2
        · rw [hmf2.2.2.1 23 _ (by omega) (by omega) (by omega)]; exact sC
        · rw [hmf2.2.2.2.1 k (by omega), sA 24 (by omega)]; exact n4
        · rw [s1.2.2.1, hR.2.2.1]
        · rw [(hrf2 p (by omega)).2, qNx2 _ _ _ _ (by decide)]
        · rw [(hrf2 p (by omega)).1, qNx3 _ _ _ _ p3]
        · rw [hmf2.2.2.1 21 _ (by omega) (by omega) (by omega), sA 21 (by omega)]
        · rw [hmf2.2.2.1 22 _ (by omega) (by omega) (by omega), sA 22 (by omega)]
        · rw [hmf2.2.2.1 23 _ (by omega) (by omega) (by omega), sB _ (by omega)]
        · rw [hmf2.2.2.2.1 x (by omega), sA 24 (by omega)]
        · show ρ2.2 1 q = _
          rw [(hrf2 q (by omega)).1, qNx4 _ _ _ (by omega)]
        · rw [(hrf2 i (by omega)).1, qNx3 _ _ _ _ (by omega)]; exact hni
  · have : j = N := by omega
    subst this
    refine ⟨_, _, qrq_end H hR', .inl ?_⟩
    obtain ⟨a1, a2, a3, a4, a5, a6, a7⟩ := pre
    refine ⟨rfl, hR'.2.2.1, j, a1, Nat.le_refl _, hR'.1, μ1, a5, fun f => ?_⟩
    have : f + (j + 1 - i) = (f + 1) + (j - i) := by omega
    rw [this, a6, qR_end H hM (by omega)]
-- the end of an application
theorem qArEnd {t : Nat → Nat} {F N g i k w m q j k1 : Nat} {sc : Nat → Option Nat} {ρ μ ρ1 μ1 : zM} {C : Nat → Option (Int32 × zM)} (H : qHy t N F) (hk : k < 40) (hw : w < 120) (hc : t i = 40) (h : qArSt t F N g i k w sc ρ μ C m q j k1 ρ1 μ1) (hm : 1 ≤ m ∧ m ≤ 4) (hcl : m = 4 ∨ (j < N ∧ t j = 41)) :
    qGo t F N ((r_readSign N ρ1 (hz_n 41)).bind fun ρ1 => some (hz_n i, ρ1)) i k w sc ρ μ C (qQ (g + 1) sc i k) := by
  obtain ⟨pre, hR, hM, ⟨t1, t2, t3⟩, ⟨n1, n2, n3, n4⟩, ps, hnq, hni⟩ := h
  have hN := H.2.1
  have hjN := hR.2.2.2.2.2
  have lps := qPs_lt (fun a b c d h => qW_lt h) ps
  have hrs : r_readSign N ρ1 (hz_n 41) = if (if j < N then t j else 0) = 41 then some (mS ρ1 1 (hz_n (j + 1 : Nat))) else some (mS ρ1 2 (hz_n 1)) := by
    unfold r_readSign
    have hb : (if j < N then t j else 0) < 65536 := by have := H.1 j; split <;> omega
    rw [hR.2.1, zti0, if_pos rfl, qsign H hR, Option.bind_some, hR.1, zn1]
    generalize (if j < N then t j else 0) = c at *
    have z41 : (hz_n 41).toInt = 41 := zn_ti (by omega)
    rw [zt c (by omega), z41]
    by_cases h : c = 41
    · rw [if_pos (by omega), if_pos h]
    · rw [if_neg (by omega), if_neg h]
  rw [hrs]
  obtain ⟨a1, a2, a3, a4, a5, a6, a7⟩ := pre
  have hmf : qMF k w μ (mS μ1 14 (hz_n w)) := qMF_t a5 (k' := k) (w' := w) ⟨fun m _ h2 => by rw [mS1, if_neg h2], fun _ _ => rfl, fun _ _ _ _ _ => rfl, fun _ _ => rfl, fun _ _ _ _ _ => rfl⟩ (Nat.le_refl _) (Nat.le_refl _)
  by_cases hj : j < N
  · rw [if_pos hj]
    have ht := H.1 j
    have hst : ∀ f, qR F N μ1 j (f + 1) = if t j = 41 then qR F N (mS μ1 14 (hz_n w)) (j + 1) f else some (hz_n (-1 - (j : Int)), mS μ1 14 (hz_n w)) := by
      intro f
      rw [qR_take H hj hM hw, t1, t2, t3]
      unfold m_take2
      rw [zt 3 (by omega), if_neg (by omega), if_neg (by omega), if_pos (by omega), zt (1040 + k) (by omega), zgd_t (by omega), zt (t j) (by omega), Int.toNat_natCast]
      have e1 : (mS μ1 14 (hz_n w)).2 23 (1040 + k) = hz_n m := n3
      rw [e1, zt m (by omega)]
      by_cases h : t j = 41
      · have h' : (t j : Int) = 41 := by omega
        rw [if_pos h', if_neg (by omega), if_pos h, Option.bind_some]
        dsimp only
        rw [zt1, if_neg (by omega)]
      · have h' : ¬ (t j : Int) = 41 := by omega
        rw [if_neg h', if_pos (by omega), if_neg h, Option.bind_some]
        dsimp only
        rw [zti0, if_pos rfl]
    by_cases h : t j = 41
    · rw [if_pos h]
      refine ⟨hz_n i, _, rfl, .inr ⟨j + 1, k1, mS μ1 14 (hz_n w), qRS_at hR hj, ⟨hM.1, rfl, hM.2.2⟩, ⟨by omega, a2, by omega, a4, hmf, fun f => ?_, ?_⟩, rfl, by omega, ?_, hni⟩⟩
      · have : f + (j + 1 - i) = (f + 1) + (j - i) := by omega
        rw [this, a6, hst, if_pos h]
      · exact qFst_t a7 (qFst_r (j := j + 1)) a2 (Nat.le_refl _) (by omega) (by omega) (fun x _ _ => ⟨rfl, rfl⟩) (fun p _ => rfl)
      · refine .inr (.inl ⟨40, 6, m + 1, 1, q, j, .inr (.inr (.inr ⟨rfl, rfl, by omega, by omega, rfl, n2, n3⟩)), ⟨?_, n1, n4⟩, ps, hnq, rfl⟩)
        show ρ1.2 0 i = _; rw [hR.2.2.1, ← hc]; rfl
    · rw [if_neg h]
      refine ⟨hz_n i, _, rfl, .inl ⟨rfl, hR.2.2.1, j, a1, by omega, hR.1, _, hmf, fun f => ?_⟩⟩
      have : f + (N + 1 - i) = ((f + (N - j)) + 1) + (j - i) := by omega
      rw [this, a6, hst, if_neg h]
  · have : j = N := by omega
    subst this
    rw [if_neg hj, if_neg (by omega)]
    refine ⟨hz_n i, _, rfl, .inl ⟨rfl, hR.2.2.1, j, a1, Nat.le_refl _, hR.1, μ1, a5, fun f => ?_⟩⟩
    have : f + (j + 1 - i) = (f + 1) + (j - i) := by omega
    rw [this, a6, qR_end H hM hw]
theorem qArLoop {t : Nat → Nat} {F N g i k w : Nat} {sc : Nat → Option Nat} {ρ μ : zM} {C : Nat → Option (Int32 × zM)} (H : qHy t N F) (hP : qClaim t F N g) (hg : g ≤ 13) (hk : k < 40) (hw : w ≤ 4 * (14 - (g + 1))) (hc : t i = 40) (hsc : qScB sc) :
    ∀ (r m q j k1 e1 : Nat) (ρ1 μ1 : zM), r + m = 4 → 1 ≤ m → qArSt t F N g i k w sc ρ μ C m q j k1 ρ1 μ1 → qGo t F N ((r_al N (r_readPart N (g + 1)) (hz_n (15 - g : Nat)) (r + (e1 + 1)) ρ1 (hz_n q) (hz_n m)).bind fun ρ1 => some (hz_n i, ρ1)) i k w sc ρ μ C (qQ (g + 1) sc i k)
  | 0, m, q, j, k1, e1, ρ1, μ1, hrm, hm, h => by
    have : m = 4 := by omega
    subst this
    rw [Nat.zero_add, r_al, zt 4 (by omega), if_pos (by omega)]
    exact qArEnd H hk (by omega) hc h (by omega) (.inl rfl)
  | r + 1, m, q, j, k1, e1, ρ1, μ1, hrm, hm, h => by
    have ef : r + 1 + (e1 + 1) = (r + (e1 + 1)) + 1 := by omega
    have hR := h.2.1
    have hN := H.2.1
    have z41 : (hz_n 41).toInt = 41 := zn_ti (by omega)
    rw [ef, r_al, zt m (by omega), if_neg (by omega), hR.2.1, zti0, if_pos rfl, qsign H hR, Option.bind_some]
    by_cases hcl : j < N ∧ t j = 41
    · rw [if_pos hcl.1, hcl.2, zt 41 (by omega), if_pos (by omega)]
      exact qArEnd H hk (by omega) hc h (by omega) (.inr hcl)
    · have hb : (if j < N then t j else 0) < 65536 ∧ (if j < N then t j else 0) ≠ 41 := by
        have := H.1 j
        by_cases hj : j < N
        · rw [if_pos hj]; omega
        · rw [if_neg hj]; omega
      generalize (if j < N then t j else 0) = c at *
      rw [zt c (by omega), if_neg (by omega)]
      obtain ⟨x, ρ2, e, oc⟩ := qArStep H hP hg hk hw hsc h (by omega) (.inr (by omega))
      rw [e, Option.bind_some]
      dsimp only
      rcases oc with fl | ⟨j2, k2, μ2, c1, c2⟩
      · have ef2 : r + (e1 + 1) = (r + e1) + 1 := by omega
        rw [ef2, qal_bad ⟨fl.1, fl.2.1⟩]
        exact ⟨hz_n i, _, rfl, .inl (qFlt_s fl rfl fl.2.1 rfl)⟩
      · subst c1
        rw [zn1]
        exact qArLoop H hP hg hk hw hc hsc r (m + 1) j j2 k2 e1 ρ2 μ2 (by omega) (by omega) c2
theorem qApply {t : Nat → Nat} {N F i k w g : Nat} {sc : Nat → Option Nat} {ρ μ : zM} (H : qHy t N F) (hP : qPart t F N g) (hQ : qClaim t F N g) (hg : g ≤ 13) (hi : i < N) (hk : k ≤ i) (hw : w ≤ 4 * (14 - (g + 1))) (hsc : qScB sc) (hR : qRS t N i sc ρ) (hM : qMS t N k w μ)
    (hc : t i = 40) : qGo t F N ((r_readWhole N (r_readPart N (g + 1)) ρ (hz_n (t i)) (hz_n (15 - g : Nat))).bind fun ρ1 => some (hz_n i, ρ1)) i k w sc ρ μ (qB F N (hz_n (t i)) μ i (15 - (g + 1))) (qQ (g + 1) sc i k) := by
  have hN := H.2.1
  have ht := H.1 i
  have hd : (15 - (g + 1) : Nat) + 1 = 15 - g := by omega
  have hd0 : ((15 - (g + 1) : Nat) : Int) ≠ 15 := by omega
  have hat1 : ρ.1 1 + hz_n 1 = hz_n (i + 1 : Nat) := by rw [hR.1, zn1]
  have hna := qNew_add (t := t) (N := N) (i := i) (o := hz_n ((6 : Nat) : Int)) (v := hz_n 0) (by omega) hM
  generalize hμa : m_add μ (hz_n ((6 : Nat) : Int)) (hz_n 0) (hz_n i) = μa at *
  obtain ⟨p1, p2, p3, p4⟩ := qpush (μ := μa) (w := w) (x := hz_n ((3 : Nat) : Int)) (y := hz_n (1040 + k : Nat)) (d := hz_n (15 - (g + 1) : Nat)) (by omega) hna.1.2.1
  have hnb := qNew_pu hna p1 (by omega)
  generalize hμb : m_push μa (hz_n ((3 : Nat) : Int)) (hz_n (1040 + k : Nat)) (hz_n (15 - (g + 1) : Nat)) = μb at *
  obtain ⟨μ1, u1, u2, u3⟩ := qpushE (r := 1) (d := hz_n (15 - g : Nat)) H (by omega) (by omega) hnb.1.2.1
  have hnew := qNew_pu hnb u2 (by omega)
  have e13 : μ.1 13 + hz_n 1 - hz_n 1 = hz_n (1040 + k : Nat) := by rw [hM.1, zn_add, zn_sub]; congr 1; omega
  have hd1 : hz_n (15 - (g + 1) : Nat) + hz_n 1 = hz_n (15 - g : Nat) := by rw [zn1, hd]
  have hB : m_begin μ F (hz_n (t i)) (hz_n i) (hz_n (15 - (g + 1) : Nat)) = some (hz_n 1, μ1) := by
    unfold m_begin
    rw [zt (t i) (by omega), if_neg (by omega), zt (15 - (g + 1)) (by omega), if_neg hd0, if_neg (by omega), if_neg (by omega), if_neg (by omega), if_pos (by omega), qguard (by omega) hM, e13]
    have ea : m_add μ (hz_n 6) (hz_n 0) (hz_n i) = μa := hμa
    rw [ea, hna.1.2.1, zt w (by omega), zgd_t (by omega)]
    have eb : m_push μa (hz_n 3) (hz_n (1040 + k : Nat)) (hz_n (15 - (g + 1) : Nat)) = μb := hμb
    rw [eb, hd1]
    have u1' : m_pushE μb F (hz_n 1) (hz_n (15 - g : Nat)) = some μ1 := u1
    rw [u1']; rfl
  have pre := qWPre (ρ := ρ) H hi hk hB hnew (by omega)
  have hX : ((r_readWhole N (r_readPart N (g + 1)) ρ (hz_n (t i)) (hz_n (15 - g : Nat))).bind fun ρ1 => some (hz_n i, ρ1)) = (r_readApplication N (r_readPart N (g + 1)) (mS ρ 1 (hz_n (i + 1 : Nat))) (hz_n (15 - g : Nat))).bind fun ρ1 => some (hz_n i, ρ1) := by
    unfold r_readWhole
    rw [zt (t i) (by omega), if_neg (by omega), if_neg (by omega), if_pos (by omega), hat1]
  rw [hX]
  have hR0 := qRS_at hR hi
  generalize hρ0 : mS ρ 1 (hz_n (i + 1 : Nat)) = ρ0 at *
  have hnx0 : ρ0.2 1 i = hz_n 0 := by rw [← hρ0]; exact hR.2.2.2.2.1 i (Nat.le_refl _)
  obtain ⟨nM, nF, n1, n2, n3, n4⟩ := hnew
  have k0 := u3 (w + 1) (by omega) (by omega)
  obtain ⟨x, ρ1, e, oc⟩ := hP (i + 1) (k + 1) (w + 1) 0 sc ρ0 μ1 (.inl rfl) (by omega) (by omega) hsc hR0 nM k0.1 k0.2
  have z2 : (hz_n 2).toInt = 2 := zn_ti (by omega)
  have hpl : r_readParts (r_readPart N (g + 1)) ρ0 (hz_n 2) (hz_n (15 - g : Nat)) = (r_readPart N (g + 1) ρ1 x (hz_n (15 - g : Nat))) := by
    unfold r_readParts
    rw [r_pl, z2, zti0, if_neg (by omega)]
    have e' : r_readPart N (g + 1) ρ0 (hz_n 0) (hz_n (15 - g : Nat)) = some (x, ρ1) := e
    rw [e', Option.bind_some]
    dsimp only
    have z01 : hz_n 0 + hz_n 1 = hz_n 1 := by rw [zn_add]; rfl
    have z12 : hz_n 1 + hz_n 1 = hz_n 2 := by rw [zn_add]; rfl
    rw [z01, r_pl, z2, zt1, if_neg (by omega), z12]
    cases r_readPart N (g + 1) ρ1 x (hz_n (15 - g : Nat)) with
    | none => rfl
    | some y => rw [Option.bind_some, r_pl, if_pos (by omega)]
  unfold r_readApplication
  rw [hpl]
  rcases oc with fl | ⟨j1, k1, μ2, s1, s2, pre2, c1, c2, c3, c4⟩
  · have bad : qBad t ρ1 := ⟨fl.1, fl.2.1⟩
    rw [qrp_bad bad, Option.bind_some]
    dsimp only
    rw [qal_bad bad]
    exact ⟨hz_n i, _, rfl, .inl (qFlt_s (qFlt_t pre fl (by omega) (by omega)) rfl fl.2.1 rfl)⟩
  · have hj1 := s1.2.2.2.2.2
    have hmf2 := pre2.2.2.2.2.1
    have ar : qArSt t F N g i k w sc ρ μ (qB F N (hz_n (t i)) μ i (15 - (g + 1))) 0 (i + 1) j1 k1 ρ1 μ2 := by
      refine ⟨qPre_t pre pre2 (by omega) ⟨rfl, fun _ _ => rfl, rfl⟩ (by omega), s1, s2, ⟨?_, ?_, ?_⟩, ⟨?_, ?_, ?_, ?_⟩, ⟨0, k + 1, ⟨rfl, rfl, rfl⟩, .inl rfl, c3⟩, c4, ?_⟩
      · rw [hmf2.2.2.2.2 25 w (by omega) (by omega) (by omega), u2.2.2.2 25 w (by omega)]; exact p2
      · rw [hmf2.2.2.2.2 26 w (by omega) (by omega) (by omega), u2.2.2.2 26 w (by omega)]; exact p3
      · rw [hmf2.2.2.2.2 27 w (by omega) (by omega) (by omega), u2.2.2.2 27 w (by omega)]; exact p4
      · rw [hmf2.2.2.1 21 _ (by omega) (by omega) (by omega)]; exact n1
      · rw [hmf2.2.2.1 22 _ (by omega) (by omega) (by omega)]; exact n2
      · rw [hmf2.2.2.1 23 _ (by omega) (by omega) (by omega)]; exact n3
      · rw [hmf2.2.2.2.1 k (by omega)]; exact n4
      · rw [(pre2.2.2.2.1.2 i (by omega)).1]; exact hnx0
    subst c1
    obtain ⟨y, ρ3, e3, oc3⟩ := qArStep H hQ hg (by omega) hw hsc ar (by omega) (.inl rfl)
    rw [e3, Option.bind_some]
    dsimp only
    rcases oc3 with fl | ⟨j2, k2, μ3, d1, d2⟩
    · have bad : qBad t ρ3 := ⟨fl.1, fl.2.1⟩
      rw [qal_bad bad]
      exact ⟨hz_n i, _, rfl, .inl (qFlt_s fl rfl fl.2.1 rfl)⟩
    · subst d1
      exact qArLoop H hQ hg (by omega) hw hc hsc 3 1 j1 j2 k2 2 ρ3 μ3 (by omega) (by omega) d2

theorem qrq_rest {t : Nat → Nat} {N F i : Nat} {sc : Nat → Option Nat} {ρ : zM} {P : zM → Int32 → Int32 → Option (Int32 × zM)} {a y : Int32} (H : qHy t N F) (h : qRS t N i sc ρ) (hi : i < N) (hat : ¬ ((97 ≤ t i ∧ t i ≤ 122) ∨ (65 ≤ t i ∧ t i ≤ 90) ∨ (48 ≤ t i ∧ t i ≤ 57) ∨ t i = 126)) :
    r_rq N P ρ a y = if 15 ≤ y.toInt then some (a, mS ρ 2 (hz_n 1)) else (r_readWhole N P ρ (hz_n (t i)) (y + hz_n 1)).bind fun ρ1 => some (a, ρ1) := by
  have ht := H.1 i
  unfold r_rq
  rw [qsign H h, if_pos hi, Option.bind_some, zt (t i) (by omega), if_neg (by omega), if_neg (by omega), if_neg (by omega), if_neg (by omega)]
theorem qClaims {t : Nat → Nat} {F N : Nat} (H : qHy t N F) : ∀ g, g ≤ 14 → qClaim t F N g
  | 0, _ => by
    intro i k w sc ρ μ hi hk hw hsc hR hM
    have ht := H.1 i
    have hN := H.2.1
    by_cases hat : (97 ≤ t i ∧ t i ≤ 122) ∨ (65 ≤ t i ∧ t i ≤ 90) ∨ (48 ≤ t i ∧ t i ≤ 57) ∨ t i = 126
    · exact qAtoms H hi hk hsc hR hM hat
    · refine qFltHere (μ' := μ) hi hR ?_ ?_ (qMF_r _ _ _)
      · rw [qrq_rest H hR hi hat, zt (15 - 0) (by omega), if_pos (by omega)]
      · unfold m_begin
        rw [zt (t i) (by omega), if_neg (by omega), zt (15 - 0) (by omega), if_pos (by omega)]
  | g + 1, hg => by
    intro i k w sc ρ μ hi hk hw hsc hR hM
    have ht := H.1 i
    have hN := H.2.1
    have hQ := qClaims H g (by omega)
    have hP := qPart_of H (by omega) hQ
    by_cases hat : (97 ≤ t i ∧ t i ≤ 122) ∨ (65 ≤ t i ∧ t i ≤ 90) ∨ (48 ≤ t i ∧ t i ≤ 57) ∨ t i = 126
    · exact qAtoms H hi hk hsc hR hM hat
    · have hd : (15 - (g + 1) : Nat) + 1 = 15 - g := by omega
      rw [qrq_rest H hR hi hat, zt (15 - (g + 1)) (by omega), if_neg (by omega), zn1, hd]
      by_cases h1 : t i = 58 ∨ t i = 42 ∨ t i = 43 ∨ t i = 45 ∨ t i = 60 ∨ t i = 61 ∨ t i = 63
      · exact qKinds H hP (by omega) hi hk hw hsc hR hM h1
      · by_cases h2 : t i = 36
        · exact qLet H hP (by omega) hi hk hw hsc hR hM h2
        · by_cases h3 : t i = 47
          · exact qTake H hP (by omega) hi hk hw hsc hR hM h3
          · by_cases h4 : t i = 40
            · exact qApply H hP hQ (by omega) hi hk hw hsc hR hM h4
            · refine qFltHere (μ' := μ) hi hR ?_ ?_ (qMF_r _ _ _)
              · unfold r_readWhole
                rw [zt (t i) (by omega), if_neg (by omega), if_neg (by omega), if_neg (by omega), if_neg (by omega), if_neg (by omega)]; rfl
              · unfold m_begin
                rw [zt (t i) (by omega), if_neg (by omega), zt (15 - (g + 1)) (by omega), if_neg (by omega), if_neg (by omega), if_neg (by omega), if_neg (by omega), if_neg (by omega), if_neg (by omega), if_neg (by omega)]
-- the parameters
def qLp (t : Nat → Nat) : Nat → Nat → Option Nat
  | 0, _ => none
  | k + 1, v => if t k - 97 = v then some k else qLp t k v
theorem qLp_X (t : Nat → Nat) (m : Nat) : qX (qLp t m) (t m - 97) m = qLp t (m + 1) := by
  funext u
  unfold qX
  show _ = if t m - 97 = u then some m else qLp t m u
  by_cases h : u = t m - 97
  · rw [if_pos h, if_pos h.symm]
  · rw [if_neg h, if_neg (fun e => h e.symm)]
theorem qLp_B {t : Nat → Nat} : ∀ {m : Nat}, m ≤ 40 → qScB (qLp t m)
  | 0, _ => by intro v b h; cases h
  | m + 1, hm => by rw [← qLp_X]; exact qScB_X (qLp_B (by omega)) (by omega)
def qMD (μ μ' : zM) : Prop := (∀ n, n ≠ 13 → n ≠ 14 → μ'.1 n = μ.1 n) ∧ (∀ a, a < 19 ∨ 27 < a → μ'.2 a = μ.2 a) ∧ (∀ x, x ≠ 26 → μ'.2 19 x = μ.2 19 x) ∧ (∀ x, x < 104 → μ'.2 20 x = μ.2 20 x) ∧ (∀ a x, 21 ≤ a → a ≤ 23 → x < 1040 → μ'.2 a x = μ.2 a x)
theorem qMD_r (μ : zM) : qMD μ μ := ⟨fun _ _ _ => rfl, fun _ _ => rfl, fun _ _ => rfl, fun _ _ => rfl, fun _ _ _ _ _ => rfl⟩
theorem qMD_t {μ μ1 μ2 : zM} (h : qMD μ μ1) (h' : qMD μ1 μ2) : qMD μ μ2 :=
  ⟨fun n h1 h2 => (h'.1 n h1 h2).trans (h.1 n h1 h2), fun a ha => (h'.2.1 a ha).trans (h.2.1 a ha), fun x hx => (h'.2.2.1 x hx).trans (h.2.2.1 x hx), fun x hx => (h'.2.2.2.1 x hx).trans (h.2.2.2.1 x hx), fun a x h1 h2 h3 => (h'.2.2.2.2 a x h1 h2 h3).trans (h.2.2.2.2 a x h1 h2 h3)⟩
theorem qMD_F {k w : Nat} {μ μ' : zM} (h : qMF k w μ μ') : qMD μ μ' :=
  ⟨h.1, fun a ha => h.2.1 a (by omega), fun x _ => by rw [h.2.1 19 (by omega)], fun x _ => by rw [h.2.1 20 (by omega)], fun a x h1 h2 h3 => h.2.2.1 a x h1 h2 (by omega)⟩
-- both have read m parameters
def qPar (t : Nat → Nat) (F N m : Nat) (ρ1 μ μ1 : zM) : Prop := qRS t N m (qLp t m) ρ1 ∧ qMS t N 0 1 μ1 ∧ ρ1.1 0 = hz_n m ∧ ρ1.1 3 = hz_n (-1) ∧ m ≤ 4 ∧ m ≤ N ∧ qMD μ μ1 ∧ μ1.2 25 0 = hz_n ((1 : Nat) : Int) ∧ μ1.2 19 26 = hz_n m
  ∧ (∀ k, k < m → μ1.2 20 (104 + k) = hz_n (t k - 97 : Nat) ∧ 97 ≤ t k ∧ t k ≤ 122) ∧ ∀ f, qR F N μ 0 (f + m) = qR F N μ1 m f
def qParO (t : Nat → Nat) (F N : Nat) (μ ρ' : zM) : Prop := (ρ'.1 2 = hz_n 1 ∧ ρ'.2 0 = qTx t ∧ ∃ j, j ≤ N ∧ ρ'.1 1 = hz_n j ∧ ∃ μ', qMD μ μ' ∧ ∀ f, qR F N μ 0 (f + (N + 1)) = some (hz_n (-1 - (j : Int)), μ'))
  ∨ ∃ m μ', m ≤ 4 ∧ m + 1 ≤ N ∧ qRS t N (m + 1) (qLp t m) ρ' ∧ qMS t N 0 1 μ' ∧ ρ'.1 0 = hz_n m ∧ ρ'.1 3 = hz_n (-1) ∧ qMD μ μ' ∧ μ'.2 25 0 = hz_n 2 ∧ μ'.2 27 0 = hz_n ((1 : Nat) : Int) ∧ μ'.2 19 26 = hz_n m
      ∧ (∀ k, k < m → μ'.2 20 (104 + k) = hz_n (t k - 97 : Nat) ∧ 97 ≤ t k ∧ t k ≤ 122) ∧ ∀ f, qR F N μ 0 (f + (m + 1)) = qR F N μ' (m + 1) f
theorem qParEnd {t : Nat → Nat} {F N m : Nat} {ρ1 μ μ1 : zM} (H : qHy t N F) (h : qPar t F N m ρ1 μ μ1) (hn : m = 4 ∨ ¬ (m < N ∧ 97 ≤ t m ∧ t m ≤ 122)) : ∃ ρ', r_readSign N ρ1 (hz_n 46) = some ρ' ∧ qParO t F N μ ρ' := by
  obtain ⟨hR, hM, h0, h3, hm4, hmN, hD, hT, h19, h20, hC⟩ := h
  have hN := H.2.1
  have hrs : r_readSign N ρ1 (hz_n 46) = if (if m < N then t m else 0) = 46 then some (mS ρ1 1 (hz_n (m + 1 : Nat))) else some (mS ρ1 2 (hz_n 1)) := by
    unfold r_readSign
    have hb : (if m < N then t m else 0) < 65536 := by have := H.1 m; split <;> omega
    rw [hR.2.1, zti0, if_pos rfl, qsign H hR, Option.bind_some, hR.1, zn1]
    generalize (if m < N then t m else 0) = c at *
    have z46 : (hz_n 46).toInt = 46 := zn_ti (by omega)
    rw [zt c (by omega), z46]
    by_cases h : c = 46
    · rw [if_pos (by omega), if_pos h]
    · rw [if_neg (by omega), if_neg h]
  rw [hrs]
  have hD0 : qMD μ (mS μ1 14 (hz_n ((0 : Nat) : Int))) := qMD_t hD ⟨fun n _ h2 => by rw [mS1, if_neg h2], fun _ _ => rfl, fun _ _ => rfl, fun _ _ => rfl, fun _ _ _ _ _ => rfl⟩
  by_cases hj : m < N
  · rw [if_pos hj]
    have ht := H.1 m
    have hst : ∀ f, qR F N μ1 m (f + 1) = if t m = 46 then qR F N (m_push (mS μ1 14 (hz_n ((0 : Nat) : Int))) (hz_n 2) (hz_n 0) (hz_n 1)) (m + 1) f else some (hz_n (-1 - (m : Int)), mS μ1 14 (hz_n ((0 : Nat) : Int))) := by
      intro f
      rw [qR_take (w := 0) H hj hM (by omega), hT]
      unfold m_take2
      rw [zt 1 (by omega), if_pos (by omega), zt (t m) (by omega)]
      by_cases h : t m = 46
      · have h' : (t m : Int) = 46 := by omega
        have e14 : ((mS μ1 14 (hz_n ((0 : Nat) : Int))).1 14).toInt = 0 := zt 0 (by omega)
        rw [if_pos h', if_pos h, e14, zgd_t (by omega), Option.bind_some]
        dsimp only
        rw [zt1, if_neg (by omega)]
      · have h' : ¬ (t m : Int) = 46 := by omega
        rw [if_neg h', if_neg h]
        have e19 : ((mS μ1 14 (hz_n ((0 : Nat) : Int))).2 19 26).toInt = m := by show (μ1.2 19 26).toInt = m; rw [h19, zt m (by omega)]
        rw [e19]
        by_cases hv : (97 : Int) ≤ (t m : Int) ∧ (t m : Int) ≤ 122
        · rw [if_pos hv, if_pos (by omega), Option.bind_some]
          dsimp only
          rw [zti0, if_pos rfl]
        · rw [if_neg hv, Option.bind_some]
          dsimp only
          rw [zti0, if_pos rfl]
    by_cases h : t m = 46
    · rw [if_pos h]
      obtain ⟨p1, p2, p3, p4⟩ := qpush (μ := mS μ1 14 (hz_n ((0 : Nat) : Int))) (w := 0) (x := hz_n 2) (y := hz_n 0) (d := hz_n 1) (by omega) rfl
      generalize m_push (mS μ1 14 (hz_n ((0 : Nat) : Int))) (hz_n 2) (hz_n 0) (hz_n 1) = μ2 at *
      refine ⟨_, rfl, .inr ⟨m, μ2, hm4, by omega, qRS_at hR hj, ⟨by rw [p1.1 13 (by decide)]; exact hM.1, p1.2.1, fun p hp => by rw [p1.2.2.1 16 (by omega)]; exact hM.2.2 p hp⟩, h0, h3, qMD_t hD0 (qMD_F (k := 0) (qPu_F p1)), p2, p4, ?_, fun k hk => ?_, fun f => ?_⟩⟩
      · rw [p1.2.2.1 19 (by omega)]; exact h19
      · rw [p1.2.2.1 20 (by omega)]; exact h20 k hk
      · have : f + (m + 1) = (f + 1) + m := by omega
        rw [this, hC, hst, if_pos h]
    · rw [if_neg h]
      refine ⟨_, rfl, .inl ⟨rfl, hR.2.2.1, m, by omega, hR.1, _, hD0, fun f => ?_⟩⟩
      have : f + (N + 1) = ((f + (N - m)) + 1) + m := by omega
      rw [this, hC, hst, if_neg h]
  · have : m = N := by omega
    subst this
    rw [if_neg hj, if_neg (by omega)]
    refine ⟨_, rfl, .inl ⟨rfl, hR.2.2.1, m, by omega, hR.1, μ1, hD, fun f => ?_⟩⟩
    have : f + (m + 1) = (f + 1) + m := by omega
    rw [this, hC, qR_end (w := 0) H hM (by omega)]
theorem qParL {t : Nat → Nat} {F N : Nat} {μ : zM} (H : qHy t N F) : ∀ (r m e1 : Nat) (ρ1 μ1 : zM), r + m = 4 → qPar t F N m ρ1 μ μ1 → ∃ ρ', r_rp N (r + (e1 + 1)) ρ1 = some ρ' ∧ qParO t F N μ ρ'
  | 0, m, e1, ρ1, μ1, hr, h => by
    have : m = 4 := by omega
    subst this
    rw [Nat.zero_add, r_rp, h.2.2.1, zt 4 (by omega), if_pos (by omega)]
    exact qParEnd H h (.inl rfl)
  | r + 1, m, e1, ρ1, μ1, hr, h => by
    have ef : r + 1 + (e1 + 1) = (r + (e1 + 1)) + 1 := by omega
    have hN := H.2.1
    rw [ef, r_rp, h.2.2.1, zt m (by omega), if_neg (by omega), qsign H h.1, Option.bind_some]
    by_cases hv : m < N ∧ 97 ≤ t m ∧ t m ≤ 122
    · have h' := h
      obtain ⟨hR, hM, h0, h3, hm4, hmN, hD, hT, h19, h20, hC⟩ := h'
      have ht := H.1 m
      rw [if_pos hv.1, zt (t m) (by omega), if_pos (by omega), hR.1, qbnd H hR.2.2.1 hv.1 hv.2, Option.bind_some]
      dsimp only
      have e1' : (mA ρ1 3 (t m - 97) (hz_n m)).1 1 + hz_n 1 = hz_n (m + 1 : Nat) := by show ρ1.1 1 + _ = _; rw [hR.1, zn1]
      have e0' : (mA ρ1 3 (t m - 97) (hz_n m)).1 0 + hz_n 1 = hz_n (m + 1 : Nat) := by show ρ1.1 0 + _ = _; rw [h0, zn1]
      rw [e1', e0']
      have e104 : hz_n 104 + hz_n m = hz_n (104 + m : Nat) := by rw [zn_add]; rfl
      generalize hμs : mA (mA (mS μ1 14 (hz_n ((0 : Nat) : Int))) 20 (104 + m) (hz_n (t m - 97 : Nat))) 19 26 (hz_n (m + 1 : Nat)) = μs
      have s14 : μs.1 14 = hz_n ((0 : Nat) : Int) := by rw [← hμs]; rfl
      have sA : ∀ a, a ≠ 19 → a ≠ 20 → μs.2 a = μ1.2 a := fun a h1 h2 => by rw [← hμs, mA2n _ _ _ _ _ h1, mA2n _ _ _ _ _ h2]; rfl
      have s19 : ∀ x, μs.2 19 x = if x = 26 then hz_n (m + 1 : Nat) else μ1.2 19 x := fun x => by rw [← hμs, mA2, if_pos rfl, mA2n _ _ _ _ _ (by decide)]; rfl
      have s20 : ∀ x, μs.2 20 x = if x = 104 + m then hz_n (t m - 97 : Nat) else μ1.2 20 x := fun x => by rw [← hμs, mA2n _ _ _ _ _ (by decide), mA2, if_pos rfl]; rfl
      have hst : ∀ f, qR F N μ1 m (f + 1) = qR F N (m_push μs (hz_n 1) (hz_n 0) (hz_n 0)) (m + 1) f := by
        intro f
        have hv' : (97 : Int) ≤ (t m : Int) ∧ (t m : Int) ≤ 122 := by omega
        have e19 : (mS μ1 14 (hz_n ((0 : Nat) : Int))).2 19 26 = hz_n m := h19
        rw [qR_take (w := 0) H hv.1 hM (by omega), hT]
        unfold m_take2
        rw [zt 1 (by omega), if_pos (by omega), zt (t m) (by omega), if_neg (by omega), if_pos hv', e19, zt m (by omega), if_neg (by omega), e104, zt (104 + m) (by omega), zgd_t (by omega), Int.toNat_natCast, zc97 hv.2, zn1, hμs, s14, zt 0 (by omega), zgd_t (by omega), Option.bind_some]
        dsimp only
        rw [zt1, if_neg (by omega)]
      obtain ⟨p1, p2, p3, p4⟩ := qpush (μ := μs) (w := 0) (x := hz_n 1) (y := hz_n 0) (d := hz_n 0) (by omega) s14
      generalize m_push μs (hz_n 1) (hz_n 0) (hz_n 0) = μ2 at *
      refine qParL H r (m + 1) e1 _ μ2 (by omega) ⟨?_, ⟨?_, p1.2.1, fun p hp => ?_⟩, rfl, h3, by omega, by omega, qMD_t hD ⟨fun n h1 h2 => ?_, fun a ha => ?_, fun x hx => ?_, fun x hx => ?_, fun a x h1 h2 h4 => ?_⟩, p2, ?_, fun k hk => ?_, fun f => ?_⟩
      · have := qRS_3 (x := hz_n m) (v := t m - 97) hR (fun u _ => qsc_X (qLp t m) (t m - 97) m u)
        rw [qLp_X] at this
        exact ⟨rfl, this.2.1, this.2.2.1, this.2.2.2.1, fun p hp => this.2.2.2.2.1 p (by omega), by omega⟩
      · rw [p1.1 13 (by decide), ← hμs]; exact hM.1
      · rw [p1.2.2.1 16 (by omega), sA 16 (by decide) (by decide)]; exact hM.2.2 p hp
      · rw [p1.1 n h2, ← hμs]; show (if n = 14 then _ else μ1.1 n) = _; rw [if_neg h2]
      · rw [p1.2.2.1 a (by omega), sA a (by omega) (by omega)]
      · rw [p1.2.2.1 19 (by omega), s19, if_neg hx]
      · rw [p1.2.2.1 20 (by omega), s20, if_neg (by omega)]
      · rw [p1.2.2.1 a (by omega), sA a (by omega) (by omega)]
      · rw [p1.2.2.1 19 (by omega), s19, if_pos rfl]
      · rw [p1.2.2.1 20 (by omega), s20]
        by_cases hkm : k = m
        · subst hkm; rw [if_pos rfl]; exact ⟨rfl, hv.2⟩
        · rw [if_neg (by omega)]; exact h20 k (by omega)
      · have : f + (m + 1) = (f + 1) + m := by omega
        rw [this, hC, hst]
    · have hb : (if m < N then t m else 0) < 65536 ∧ ¬ (97 ≤ (if m < N then t m else 0) ∧ (if m < N then t m else 0) ≤ 122) := by
        have := H.1 m
        by_cases hj : m < N
        · rw [if_pos hj]; omega
        · rw [if_neg hj]; omega
      generalize (if m < N then t m else 0) = c at *
      rw [zt c (by omega), if_neg (by omega)]
      exact qParEnd H h (.inr hv)
