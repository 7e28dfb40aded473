theorem zn_d40 {i p : Nat} (hi : i ≤ 60) (hp : p < 40) : hz_n (40 * i + p : Nat) / hz_n 40 = hz_n i := by
  rw [zn_div (by omega) (by omega)]
  congr 1; omega
theorem zn_m40 {i p : Nat} (hi : i ≤ 60) (hp : p < 40) : hz_n (40 * i + p : Nat) - hz_n (40 * i + p : Nat) / hz_n 40 * hz_n 40 = hz_n p := by
  rw [zn_d40 hi hp, zn_mul, zn_sub]
  congr 1; omega
theorem zn_b40 {i p q : Nat} : hz_n (40 * i + p : Nat) - hz_n p + hz_n q = hz_n (40 * i + q : Nat) := by
  rw [zn_sub, zn_add]
  congr 1; omega
-- the definition of an entry
theorem b_def {E : Nat → Option zT} {dfs : Nat → Option Nat} {ST : Nat → Nat → Int32} {F l0 am : Nat} {S : zG} {s : zD} (st : bSta E dfs ST F S) (I : bInv S dfs ST l0 am s) {i : Nat} (hi : i < de s) :
    ∃ d T, (dk s).2.2 4 i = some d ∧ E d = some T ∧ bDef ST F S T (dl s i) := by
  obtain ⟨h1, h2, h3⟩ := I.2.2.1 i hi
  rcases st _ h1 with h | ⟨d, T, e1, e2, e3, h⟩
  · exact absurd h.1 h3
  · exact ⟨d, T, by rw [h2, e1], e2, h⟩
theorem b_le {dfs : Nat → Option Nat} {ST : Nat → Nat → Int32} {l0 am : Nat} {S : zG} {s : zD} (I : bInv S dfs ST l0 am s) : de s ≤ 50 := by
  have := I.2.1.2.2.2.2.1; have := I.2.1.2.2.2.2.2.1; omega
theorem g_next {E : Nat → Option zT} {dfs : Nat → Option Nat} {ST : Nat → Nat → Int32} {F l0 am : Nat} {S : zG} {s : zD} (st : bSta E dfs ST F S) (I : bInv S dfs ST l0 am s) {κ : zK} (hκ : κ.2.2 4 = (dk s).2.2 4) {i p : Nat} (hi : i < de s) (hc : s_cl S (dl s i) p = 1) :
    g_nextPart κ E (hz_n (40 * i + p : Nat)) = some (if s_nx S (dl s i) p = 0 then hz_n (-1) else hz_n (40 * i + s_nx S (dl s i) p : Nat)) := by
  obtain ⟨d, T, h1, h2, D⟩ := b_def st I hi
  have hp := bKid_lt D hc
  have hl := b_le I
  have hN := D.2.2.2.2.2.2.2.2.2.2.2.2.2 p hc
  unfold g_nextPart
  rw [zn_m40 (by omega) hp, zn_d40 (by omega) hp, zt i (by omega), zgd_t (by omega), Int.toNat_natCast, hκ, h1]
  show (E d).bind _ = _
  rw [h2]
  show zgd _ _ = _
  rw [zt p (by omega), Int.toNat_natCast, zgd_t ⟨by omega, by rw [D.1]; exact hN.1⟩, hN.2.2.2.2.2.1, zt _ (by have := hN.2.2.2.2.2.2.1; omega), zn_b40]
  by_cases h : s_nx S (dl s i) p = 0
  · rw [if_pos (by omega), if_pos h]
  · rw [if_neg (by omega), if_neg h]
theorem g_next_s {E : Nat → Option zT} {dfs : Nat → Option Nat} {ST : Nat → Nat → Int32} {F l0 am : Nat} {S : zG} {s : zD} (st : bSta E dfs ST F S) (I : bInv S dfs ST l0 am s) {κ : zK} (hκ : κ.2.2 4 = (dk s).2.2 4) {i p : Nat} (hi : i < de s) (hc : s_cl S (dl s i) p = 1) (h : s_nx S (dl s i) p ≠ 0) :
    g_nextPart κ E (hz_n (40 * i + p : Nat)) = some (hz_n (40 * i + s_nx S (dl s i) p : Nat)) := by
  rw [g_next st I hκ hi hc, if_neg h]
theorem g_pcn {E : Nat → Option zT} {dfs : Nat → Option Nat} {ST : Nat → Nat → Int32} {F : Nat} {S : zG} (st : bSta E dfs ST F S) {κ : zK} (hκ : κ.2.2 3 = dfs) {l : Nat} (hl : l < 26) :
    g_parameterCount κ E (hz_n l) = some (if dfs l = none then hz_n (-1) else hz_n (s_pc S l)) := by
  unfold g_parameterCount
  rw [zt l (by omega), zgd_t (by omega), Int.toNat_natCast, hκ]
  rcases st l hl with ⟨h1, _⟩ | ⟨d, T, h1, h2, h3, D⟩
  · rw [h1]; rfl
  · rw [h1]
    show (E d).bind _ = _
    rw [h2]
    show some T.2.2.2.2 = _
    rw [D.2.2.2.2.1]; rfl
-- keepAs
theorem g_kA0 {κ : zK} {x : Int32} {c n : Nat} (hc : c < 2001) (h : κ.2.1 6 c = hz_n 0) (hn : κ.1 1 = hz_n n) (hl : n < 2001) : g_keepAs κ x (hz_n c) = some (kPush κ c n) := by
  unfold g_keepAs
  rw [q_req0 hc h hn hl, Option.bind_some]
  dsimp only
  rw [zn_ti (by omega), if_pos rfl]
theorem g_kA1 {κ : zK} {x : Int32} {c : Nat} (hc : c < 2001) (h : κ.2.1 6 c = hz_n 1) : g_keepAs κ x (hz_n c) = some (kS κ 5 (hz_n (-4))) := by
  unfold g_keepAs
  rw [q_req1 hc h, Option.bind_some]
  dsimp only
  rw [zn_ti (by omega), if_pos rfl]
theorem g_kAk {κ : zK} {y c n : Nat} (hy : y < 2001) (hc : c < 2001) (h0 : κ.2.1 6 c ≠ hz_n 0) (h1 : κ.2.1 6 c ≠ hz_n 1) (hn : κ.1 1 = hz_n (n + 1 : Nat)) : g_keepAs κ (hz_n y) (hz_n c) = some (kKeep κ y n (κ.2.1 6 c) (κ.2.1 7 c)) := by
  unfold g_keepAs
  rw [q_reqk hc h0 h1, Option.bind_some]
  dsimp only
  rw [zn_ti (by omega), if_neg (by decide), zt c (by omega), zgd_t (by omega), Int.toNat_natCast]
  exact q_keep hy hn
-- requestNumber
theorem g_rN0 {κ : zK} {c n : Nat} (hc : c < 2001) (h : κ.2.1 6 c = hz_n 0) (hn : κ.1 1 = hz_n n) (hl : n < 2001) : g_requestNumber κ (hz_n c) = some (hz_n 0, kPush κ c n) := by
  unfold g_requestNumber
  rw [q_req0 hc h hn hl, Option.bind_some]
  dsimp only
  rw [zn_ti (by omega), if_pos rfl]
theorem g_rNk {κ : zK} {c : Nat} (hc : c < 2001) (h : κ.2.1 6 c = hz_n 2) : g_requestNumber κ (hz_n c) = some (hz_n 1, κ) := by
  unfold g_requestNumber
  rw [q_reqk hc (by rw [h]; decide) (by rw [h]; decide), Option.bind_some]
  dsimp only
  rw [zn_ti (by omega), if_neg (by decide), zt c (by omega), zgd_t (by omega), Int.toNat_natCast]
  rw [h, zn_ti (by omega), if_pos rfl]
theorem g_rNb {κ : zK} {c : Nat} (hc : c < 2001) (h0 : κ.2.1 6 c ≠ hz_n 0) (h1 : κ.2.1 6 c ≠ hz_n 1) (h2 : κ.2.1 6 c ≠ hz_n 2) : g_requestNumber κ (hz_n c) = some (hz_n 0, kS κ 5 (hz_n (-3))) := by
  unfold g_requestNumber
  rw [q_reqk hc h0 h1, Option.bind_some]
  dsimp only
  rw [zn_ti (by omega), if_neg (by decide), zt c (by omega), zgd_t (by omega), Int.toNat_natCast]
  rw [if_neg]
  intro e; exact h2 (by rw [← e, zn_of])
-- lookAt by the sign
theorem g_lookE {E : Nat → Option zT} {dfs : Nat → Option Nat} {ST : Nat → Nat → Int32} {F l0 am : Nat} {S : zG} {s : zD} (st : bSta E dfs ST F S) (I : bInv S dfs ST l0 am s) {i p : Nat} (hi : i < de s) (hc : s_cl S (dl s i) p = 1) :
    ∃ T, bDef ST F S T (dl s i) ∧ g_lookAt (dk s) E (hz_n (40 * i + p : Nat)) = g_la (dk s) E T (hz_n (40 * i + p : Nat)) (hz_n p) (hz_n (s_sg S (dl s i) p)) := by
  obtain ⟨d, T, h1, h2, D⟩ := b_def st I hi
  have hp := bKid_lt D hc
  have hl := b_le I
  have hN := D.2.2.2.2.2.2.2.2.2.2.2.2.2 p hc
  refine ⟨T, D, ?_⟩
  unfold g_lookAt
  rw [zn_m40 (by omega) hp, zn_d40 (by omega) hp, zt (40 * i + p) (by omega), if_neg (by omega), zt i (by omega), zgd_t (by omega), Int.toNat_natCast, h1]
  show (E d).bind _ = _
  rw [h2]
  show zgd _ _ = _
  rw [zt p (by omega), Int.toNat_natCast, zgd_t ⟨by omega, by rw [D.1]; exact hN.1⟩, hN.2.2.2.2.1]

theorem zsg {E : Nat → Option zT} {dfs : Nat → Option Nat} {ST : Nat → Nat → Int32} {F l0 am : Nat} {S : zG} {s : zD} (st : bSta E dfs ST F S) (I : bInv S dfs ST l0 am s) {i p : Nat} (hi : i < de s) (hc : s_cl S (dl s i) p = 1) :
    bShp ST F S (dl s i) p ∧ p < 40 ∧ i < 50 ∧ 40 * i + p < 2000 := by
  obtain ⟨T, D⟩ := bDefs_of st I i hi
  have hp := bKid_lt D hc
  have hl := b_le I
  exact ⟨bShp_of D hc, hp, by omega, by omega⟩
theorem g_la1 {E : Nat → Option zT} {dfs : Nat → Option Nat} {ST : Nat → Nat → Int32} {F l0 am : Nat} {S : zG} {s : zD} (st : bSta E dfs ST F S) (I : bInv S dfs ST l0 am s) {i p : Nat} (hi : i < de s) (hc : s_cl S (dl s i) p = 1) (ho : s_op S (dl s i) p = 1) :
    g_lookAt (dk s) E (hz_n (40 * i + p : Nat)) = g_keepAs (dk s) (hz_n (40 * i + p : Nat)) (kv s (40 * i + s_bi S (dl s i) p)) := by
  obtain ⟨T, D, h⟩ := g_lookE st I hi hc
  obtain ⟨sh, hp, h5, h6⟩ := zsg st I hi hc
  obtain ⟨a1, a2, a3, a4⟩ := bSh1 sh ho
  have hN := D.2.2.2.2.2.2.2.2.2.2.2.2.2 p hc
  rw [h]
  unfold g_la
  rw [zt (s_sg S (dl s i) p) (by omega), if_neg (by omega), if_pos (by omega), zt p (by omega), Int.toNat_natCast, zgd_t ⟨by omega, by rw [D.1]; exact hN.1⟩, hN.2.2.2.2.2.2.2.1 ho, zn_b40, zt _ (by omega), zgd_t (by omega), Int.toNat_natCast]
theorem g_la2 {E : Nat → Option zT} {dfs : Nat → Option Nat} {ST : Nat → Nat → Int32} {F l0 am : Nat} {S : zG} {s : zD} (st : bSta E dfs ST F S) (I : bInv S dfs ST l0 am s) {i p : Nat} (hi : i < de s) (hc : s_cl S (dl s i) p = 1) (ho : s_op S (dl s i) p = 2) :
    g_lookAt (dk s) E (hz_n (40 * i + p : Nat)) = g_keep (dk s) (hz_n (40 * i + p : Nat)) (hz_n 2) (hz_n (s_vl S (dl s i) p)) := by
  obtain ⟨T, D, h⟩ := g_lookE st I hi hc
  obtain ⟨sh, hp, h5, h6⟩ := zsg st I hi hc
  obtain ⟨a1, a2⟩ := bSh2 sh ho
  rw [h]
  unfold g_la
  rw [zt (s_sg S (dl s i) p) (by omega), if_pos (by omega), zn_sub, a1]
  congr 2; omega
theorem g_la3 {E : Nat → Option zT} {dfs : Nat → Option Nat} {ST : Nat → Nat → Int32} {F l0 am : Nat} {S : zG} {s : zD} (st : bSta E dfs ST F S) (I : bInv S dfs ST l0 am s) {i p : Nat} (hi : i < de s) (hc : s_cl S (dl s i) p = 1) (ho : s_op S (dl s i) p = 3) :
    g_lookAt (dk s) E (hz_n (40 * i + p : Nat)) = g_lookAtLetter (dk s) E (hz_n (40 * i + p : Nat)) (hz_n (s_vl S (dl s i) p)) := by
  obtain ⟨T, D, h⟩ := g_lookE st I hi hc
  obtain ⟨sh, hp, h5, h6⟩ := zsg st I hi hc
  obtain ⟨a1, a2⟩ := bSh3 sh ho
  rw [h]
  unfold g_la
  rw [zt (s_sg S (dl s i) p) (by omega), if_neg (by omega), if_neg (by omega), if_pos (by omega), zn_sub, a1]
  congr 2; omega
theorem g_la4 {E : Nat → Option zT} {dfs : Nat → Option Nat} {ST : Nat → Nat → Int32} {F l0 am : Nat} {S : zG} {s : zD} (st : bSta E dfs ST F S) (I : bInv S dfs ST l0 am s) {i p : Nat} (hi : i < de s) (hc : s_cl S (dl s i) p = 1) (ho : s_op S (dl s i) p = 4) :
    g_lookAt (dk s) E (hz_n (40 * i + p : Nat)) = g_keep (dk s) (hz_n (40 * i + p : Nat)) (hz_n 3) (hz_n 0) := by
  obtain ⟨T, D, h⟩ := g_lookE st I hi hc
  obtain ⟨sh, hp, h5, h6⟩ := zsg st I hi hc
  have a1 := bSh4 sh ho
  rw [h]
  unfold g_la
  rw [zt (s_sg S (dl s i) p) (by omega), if_neg (by omega), if_neg (by omega), if_neg (by omega), if_pos (by omega)]
theorem g_la5 {E : Nat → Option zT} {dfs : Nat → Option Nat} {ST : Nat → Nat → Int32} {F l0 am : Nat} {S : zG} {s : zD} (st : bSta E dfs ST F S) (I : bInv S dfs ST l0 am s) {i p : Nat} (hi : i < de s) (hc : s_cl S (dl s i) p = 1) (ho : s_op S (dl s i) p = 5) :
    g_lookAt (dk s) E (hz_n (40 * i + p : Nat)) = g_keep (dk s) (hz_n (40 * i + p : Nat)) (hz_n 4) (hz_n (40 * i + p : Nat)) := by
  obtain ⟨T, D, h⟩ := g_lookE st I hi hc
  obtain ⟨sh, hp, h5, h6⟩ := zsg st I hi hc
  have a1 := (bSh5 sh ho).1
  rw [h]
  unfold g_la
  rw [zt (s_sg S (dl s i) p) (by omega), if_neg (by omega), if_neg (by omega), if_neg (by omega), if_neg (by omega), if_pos (by omega)]
theorem g_la6 {E : Nat → Option zT} {dfs : Nat → Option Nat} {ST : Nat → Nat → Int32} {F l0 am : Nat} {S : zG} {s : zD} (st : bSta E dfs ST F S) (I : bInv S dfs ST l0 am s) {i p : Nat} (hi : i < de s) (hc : s_cl S (dl s i) p = 1) (ho : s_op S (dl s i) p = 6) :
    g_lookAt (dk s) E (hz_n (40 * i + p : Nat)) = g_lookAtApplication (dk s) E (hz_n (40 * i + p : Nat)) := by
  obtain ⟨T, D, h⟩ := g_lookE st I hi hc
  obtain ⟨sh, hp, h5, h6⟩ := zsg st I hi hc
  have a1 := (bSh6 sh ho).1
  rw [h]
  unfold g_la
  rw [zt (s_sg S (dl s i) p) (by omega), if_neg (by omega), if_neg (by omega), if_neg (by omega), if_neg (by omega), if_neg (by omega), if_pos (by omega)]
theorem g_la7 {E : Nat → Option zT} {dfs : Nat → Option Nat} {ST : Nat → Nat → Int32} {F l0 am : Nat} {S : zG} {s : zD} (st : bSta E dfs ST F S) (I : bInv S dfs ST l0 am s) {i p : Nat} (hi : i < de s) (hc : s_cl S (dl s i) p = 1) (ho : s_op S (dl s i) p = 7) :
    g_lookAt (dk s) E (hz_n (40 * i + p : Nat)) = g_lookAtArithmetic (dk s) E (hz_n (40 * i + p : Nat)) (hz_n (s_vl S (dl s i) p)) := by
  obtain ⟨T, D, h⟩ := g_lookE st I hi hc
  obtain ⟨sh, hp, h5, h6⟩ := zsg st I hi hc
  obtain ⟨a1, a2, _⟩ := bSh7 sh ho
  rw [h]
  unfold g_la
  rw [zt (s_sg S (dl s i) p) (by omega), if_neg (by omega), if_neg (by omega), if_neg (by omega), if_neg (by omega), if_neg (by omega), if_neg (by omega), if_neg (by omega), if_neg (by omega), if_neg (by omega), a1]
theorem g_la8 {E : Nat → Option zT} {dfs : Nat → Option Nat} {ST : Nat → Nat → Int32} {F l0 am : Nat} {S : zG} {s : zD} (st : bSta E dfs ST F S) (I : bInv S dfs ST l0 am s) {i p : Nat} (hi : i < de s) (hc : s_cl S (dl s i) p = 1) (ho : s_op S (dl s i) p = 8) :
    g_lookAt (dk s) E (hz_n (40 * i + p : Nat)) = g_lookAtChoice (dk s) E (hz_n (40 * i + p : Nat)) := by
  obtain ⟨T, D, h⟩ := g_lookE st I hi hc
  obtain ⟨sh, hp, h5, h6⟩ := zsg st I hi hc
  have a1 := (bSh8 sh ho).1
  rw [h]
  unfold g_la
  rw [zt (s_sg S (dl s i) p) (by omega), if_neg (by omega), if_neg (by omega), if_neg (by omega), if_neg (by omega), if_neg (by omega), if_neg (by omega), if_pos (by omega)]
theorem g_la9 {E : Nat → Option zT} {dfs : Nat → Option Nat} {ST : Nat → Nat → Int32} {F l0 am : Nat} {S : zG} {s : zD} (st : bSta E dfs ST F S) (I : bInv S dfs ST l0 am s) {i p : Nat} (hi : i < de s) (hc : s_cl S (dl s i) p = 1) (ho : s_op S (dl s i) p = 9) :
    g_lookAt (dk s) E (hz_n (40 * i + p : Nat)) = g_lookAtSplit (dk s) E (hz_n (40 * i + p : Nat)) := by
  obtain ⟨T, D, h⟩ := g_lookE st I hi hc
  obtain ⟨sh, hp, h5, h6⟩ := zsg st I hi hc
  have a1 := (bSh9 sh ho).1
  rw [h]
  unfold g_la
  rw [zt (s_sg S (dl s i) p) (by omega), if_neg (by omega), if_neg (by omega), if_neg (by omega), if_neg (by omega), if_neg (by omega), if_neg (by omega), if_neg (by omega), if_pos (by omega)]
theorem g_la10 {E : Nat → Option zT} {dfs : Nat → Option Nat} {ST : Nat → Nat → Int32} {F l0 am : Nat} {S : zG} {s : zD} (st : bSta E dfs ST F S) (I : bInv S dfs ST l0 am s) {i p : Nat} (hi : i < de s) (hc : s_cl S (dl s i) p = 1) (ho : s_op S (dl s i) p = 10) :
    g_lookAt (dk s) E (hz_n (40 * i + p : Nat)) = g_keepAs (kA (dk s) 7 (40 * i + (p + 1)) (hz_n (40 * i + (p + 2) : Nat))) (hz_n (40 * i + p : Nat)) (hz_n (40 * i + s_nx S (dl s i) (p + 2) : Nat)) := by
  obtain ⟨T, D, h⟩ := g_lookE st I hi hc
  obtain ⟨sh, hp, h5, h6⟩ := zsg st I hi hc
  obtain ⟨a1, k0, k1, a2, _⟩ := bSh10 sh ho
  have hq := bKid_lt D k0.1
  rw [h]
  unfold g_la
  rw [zt (s_sg S (dl s i) p) (by omega), if_neg (by omega), if_neg (by omega), if_neg (by omega), if_neg (by omega), if_neg (by omega), if_neg (by omega), if_neg (by omega), if_neg (by omega), if_pos (by omega), zn1, zn2, zt (40 * i + p + 1) (by omega), zgd_t (by omega), Int.toNat_natCast]
  have e : g_nextPart (kA (dk s) 7 (40 * i + (p + 1)) (hz_n (40 * i + (p + 2) : Nat))) E (hz_n (40 * i + (p + 2) : Nat)) = _ := g_next_s st I (κ := kA (dk s) 7 (40 * i + (p + 1)) (hz_n (40 * i + (p + 2) : Nat))) rfl hi k0.1 (by omega)
  show (g_nextPart (kA (dk s) 7 (40 * i + (p + 1)) (hz_n (40 * i + (p + 2) : Nat))) E (hz_n (40 * i + (p + 2) : Nat))).bind _ = _
  rw [e, Option.bind_some]
  rfl

def sumN (f : Nat → Nat) : Nat → Nat
  | 0 => 0
  | n + 1 => sumN f n + f n
theorem sumN_congr {f g : Nat → Nat} : ∀ {n : Nat}, (∀ c, c < n → f c = g c) → sumN f n = sumN g n
  | 0, _ => rfl
  | n + 1, h => by
    show sumN f n + f n = sumN g n + g n
    rw [sumN_congr (fun c hc => h c (by omega)), h n (by omega)]
theorem sumN_le {f g : Nat → Nat} : ∀ {n : Nat}, (∀ c, c < n → f c ≤ g c) → sumN f n ≤ sumN g n
  | 0, _ => Nat.le_refl _
  | n + 1, h => by
    show sumN f n + f n ≤ sumN g n + g n
    have := sumN_le (n := n) (fun c hc => h c (by omega)); have := h n (by omega); omega
theorem sumN_upd {f g : Nat → Nat} {a : Nat} : ∀ {n k : Nat}, a < n → g a = f a + k → (∀ c, c < n → c ≠ a → g c = f c) → sumN g n = sumN f n + k
  | 0, _, h, _, _ => by omega
  | n + 1, k, h, h1, h2 => by
    show sumN g n + g n = sumN f n + f n + k
    by_cases e : a = n
    · subst e
      rw [sumN_congr (n := a) (fun c hc => h2 c (by omega) (by omega)), h1]; omega
    · rw [sumN_upd (n := n) (by omega) h1 (fun c hc hn => h2 c (by omega) hn), h2 n (by omega) (by omega)]; omega
theorem sumN_zero {f : Nat → Nat} {n : Nat} : ∀ {k : Nat}, (∀ c, n ≤ c → c < n + k → f c = 0) → sumN f (n + k) = sumN f n
  | 0, _ => rfl
  | k + 1, h => by
    show sumN f (n + k) + f (n + k) = sumN f n
    rw [sumN_zero (k := k) (fun c h1 h2 => h c h1 (by omega)), h (n + k) (by omega) (by omega), Nat.add_zero]
theorem sumN_ones {f : Nat → Nat} {n m : Nat} : ∀ {k : Nat}, (∀ c, n ≤ c → c < n + k → f c = m) → sumN f (n + k) = sumN f n + k * m
  | 0, _ => by show sumN f n = _; omega
  | k + 1, h => by
    show sumN f (n + k) + f (n + k) = _
    rw [sumN_ones (k := k) (fun c h1 h2 => h c h1 (by omega)), h (n + k) (by omega) (by omega), Nat.succ_mul]; omega
theorem sumN_split {f : Nat → Nat} {n : Nat} : ∀ {k : Nat}, sumN f (n + k) = sumN f n + sumN (fun j => f (n + j)) k
  | 0 => rfl
  | k + 1 => by
    show sumN f (n + k) + f (n + k) = sumN f n + (sumN (fun j => f (n + j)) k + f (n + k))
    rw [sumN_split (k := k)]; omega
noncomputable def ind (p : Prop) : Nat := @ite Nat p (Classical.propDecidable p) 1 0
theorem ind_t {p : Prop} (h : p) : ind p = 1 := by unfold ind; simp [h]
theorem ind_f {p : Prop} (h : ¬ p) : ind p = 0 := by unfold ind; simp [h]
theorem ind_le (p : Prop) : ind p ≤ 1 := by unfold ind; split <;> omega
theorem ind_c {p q : Prop} (h : p ↔ q) : ind p = ind q := by rw [propext h]
def bX (S : zG) (s : zD) (c : Nat) : Prop := s_cl S (dl s (c / 40)) (c % 40) = 1
noncomputable def c_om (S : zG) (s : zD) (c : Nat) : Nat := ind (bX S s c ∧ bOwn S (dl s (c / 40)) (c % 40) ∧ dg s c ≠ none)
noncomputable def c_st (S : zG) (s : zD) (c : Nat) : Nat := ind (bX S s c ∧ bOwn S (dl s (c / 40)) (c % 40) ∧ dg s c ≠ none ∧ ks s c ≠ hz_n 0)
noncomputable def c_nm (S : zG) (s : zD) (c : Nat) : Nat := ind (bX S s c ∧ s_op S (dl s (c / 40)) (c % 40) = 1 ∧ ks s c ≠ hz_n 0)
noncomputable def c_dd (s : zD) (c : Nat) : Nat := ind (dd s c ≠ none)
noncomputable def c_no (s : zD) : Nat := sumN (fun l => ind ((dm s).2 32 l ≠ hz_n (-1))) 26
noncomputable def c_pe (S : zG) (s : zD) : Nat := sumN (fun i => ind (s_pc S (dl s i) = 0)) (de s)
def bCnt (S : zG) (s : zD) (wn wr cr ps ob oe : Nat) : Prop :=
  dnp s = sumN (c_om S s) (40 * de s) ∧ sumN (c_st S s) (40 * de s) + cr ≤ c_no s + sumN (c_nm S s) (40 * de s) + wn
  ∧ dnb s = sumN (c_dd s) (40 * de s) + ob ∧ dnc s ≤ dnb s + 12 * de s + 12 * wr + ps ∧ c_pe S s ≤ c_no s + oe
theorem bCnt_same {S : zG} {Q : Nat → Prop} {s s' : zD} {wn wr cr ps ob oe : Nat} (h : bSame Q s s') (H : bCnt S s wn wr cr ps ob oe) : bCnt S s' wn wr cr ps ob oe := by
  obtain ⟨h1, ⟨_, _, _, _, a5, _, _⟩, _, _, _, _, _, b6⟩ := h
  have eg : dg s' = dg s := by show s'.2.2.1 = _; rw [h1]
  have ed : dd s' = dd s := by show s'.2.2.2.2.2.1 = _; rw [h1]
  have el : dl s' = dl s := by show s'.2.2.2.2.2.2.2.1 = _; rw [h1]
  have ee : de s' = de s := by show s'.2.2.2.2.2.2.2.2.1 = _; rw [h1]
  have en : dnp s' = dnp s := by show s'.2.2.2.2.2.2.2.2.2.1 = _; rw [h1]
  have ec : dnc s' = dnc s := by show s'.2.2.2.2.2.2.2.2.2.2.1 = _; rw [h1]
  have eb : dnb s' = dnb s := by show s'.2.2.2.2.2.2.2.2.2.2.2 = _; rw [h1]
  have e6 : ∀ c, ks s' c = ks s c := fun c => by show (dk s').2.1 6 c = _; rw [a5 6 (by omega) (by omega)]
  unfold bCnt c_om c_st c_nm c_dd c_no c_pe bX at *
  rw [eg, ed, el, ee, en, ec, eb, b6.1 32 (by omega) (by omega) (by omega)]
  simp only [e6]
  exact H
theorem bX_of {S : zG} {s : zD} {i p : Nat} (hp : p < 40) : bX S s (40 * i + p) ↔ s_cl S (dl s i) p = 1 := by
  have e1 : (40 * i + p) / 40 = i := by omega
  have e2 : (40 * i + p) % 40 = p := by omega
  unfold bX; rw [e1, e2]
theorem bCnt_push {S : zG} {s : zD} {i p n : Nat} {a : Int} {wn wr cr ps ob oe : Nat} (hi : i < de s) (hp : p < 40) (hc : s_cl S (dl s i) p = 1) (h0 : ks s (40 * i + p) = hz_n 0) (hg : dg s (40 * i + p) = none ∨ ¬ bOwn S (dl s i) p)
    (H : bCnt S s wn wr cr ps ob oe) : bCnt S (bsP s (40 * i + p) n a) wn wr (cr + ind (s_op S (dl s i) p = 1)) ps ob oe := by
  obtain ⟨H1, H2, H3, H4, H5⟩ := H
  have e1 : (40 * i + p) / 40 = i := by omega
  have e2 : (40 * i + p) % 40 = p := by omega
  have hst : sumN (c_st S (bsP s (40 * i + p) n a)) (40 * de s) = sumN (c_st S s) (40 * de s) := by
    refine sumN_congr fun c hc' => ?_
    unfold c_st
    refine ind_c ?_
    rw [bsP_ks]
    by_cases e : c = 40 * i + p
    · subst e
      rw [if_pos rfl]
      constructor
      · rintro ⟨a1, a2, a3, a4⟩
        rw [e1, e2] at a2
        rcases hg with hg | hg
        · exact absurd hg a3
        · exact absurd a2 hg
      · rintro ⟨a1, a2, a3, a4⟩
        exact absurd h0 a4
    · rw [if_neg e]; exact Iff.rfl
  have hnm : sumN (c_nm S (bsP s (40 * i + p) n a)) (40 * de s) = sumN (c_nm S s) (40 * de s) + ind (s_op S (dl s i) p = 1) := by
    refine sumN_upd (a := 40 * i + p) (by omega) ?_ ?_
    · unfold c_nm
      rw [bsP_ks, if_pos rfl]
      have z : ind (bX S s (40 * i + p) ∧ s_op S (dl s ((40 * i + p) / 40)) ((40 * i + p) % 40) = 1 ∧ ks s (40 * i + p) ≠ hz_n 0) = 0 := ind_f (fun h => h.2.2 h0)
      rw [z, Nat.zero_add]
      refine ind_c ?_
      constructor
      · rintro ⟨_, a2, _⟩; rw [e1, e2] at a2; exact a2
      · intro h; refine ⟨(bX_of hp).mpr hc, ?_, by decide⟩; rw [e1, e2]; exact h
    · intro c _ hn
      unfold c_nm
      rw [bsP_ks, if_neg hn]
      rfl
  refine ⟨H1, ?_, H3, H4, H5⟩
  show sumN (c_st S (bsP s (40 * i + p) n a)) (40 * de s) + _ ≤ c_no s + sumN (c_nm S (bsP s (40 * i + p) n a)) (40 * de s) + wn
  rw [hst, hnm]; omega
theorem bCnt_own {S : zG} {s : zD} {i p n q : Nat} {wn wr cr ps ob oe : Nat} (hi : i < de s) (hp : p < 40) (hc : s_cl S (dl s i) p = 1) (h0 : ks s (40 * i + p) = hz_n 0) (ho : bOwn S (dl s i) p) (hg : dg s (40 * i + p) ≠ none)
    (H : bCnt S s wn wr (cr + 1) ps ob oe) : bCnt S (bsO s (40 * i + p) n q) wn wr (cr + ind (s_op S (dl s i) p = 1)) ps ob oe := by
  obtain ⟨H1, H2, H3, H4, H5⟩ := H
  have e1 : (40 * i + p) / 40 = i := by omega
  have e2 : (40 * i + p) % 40 = p := by omega
  have hst : sumN (c_st S (bsO s (40 * i + p) n q)) (40 * de s) = sumN (c_st S s) (40 * de s) + 1 := by
    refine sumN_upd (a := 40 * i + p) (by omega) ?_ ?_
    · unfold c_st
      rw [bsO_ks, if_pos rfl]
      have z : ind (bX S s (40 * i + p) ∧ bOwn S (dl s ((40 * i + p) / 40)) ((40 * i + p) % 40) ∧ dg s (40 * i + p) ≠ none ∧ ks s (40 * i + p) ≠ hz_n 0) = 0 := ind_f (fun h => h.2.2.2 h0)
      rw [z, Nat.zero_add]
      refine ind_t ⟨(bX_of hp).mpr hc, ?_, hg, by decide⟩
      show bOwn S (dl s ((40 * i + p) / 40)) _
      rw [e1, e2]; exact ho
    · intro c _ hn
      unfold c_st
      rw [bsO_ks, if_neg hn]
      rfl
  have hnm : sumN (c_nm S (bsO s (40 * i + p) n q)) (40 * de s) = sumN (c_nm S s) (40 * de s) + ind (s_op S (dl s i) p = 1) := by
    refine sumN_upd (a := 40 * i + p) (by omega) ?_ ?_
    · unfold c_nm
      rw [bsO_ks, if_pos rfl]
      have z : ind (bX S s (40 * i + p) ∧ s_op S (dl s ((40 * i + p) / 40)) ((40 * i + p) % 40) = 1 ∧ ks s (40 * i + p) ≠ hz_n 0) = 0 := ind_f (fun h => h.2.2 h0)
      rw [z, Nat.zero_add]
      refine ind_c ?_
      constructor
      · rintro ⟨_, a2, _⟩
        have a3 : s_op S (dl s ((40 * i + p) / 40)) ((40 * i + p) % 40) = 1 := a2
        rw [e1, e2] at a3; exact a3
      · intro h; refine ⟨(bX_of hp).mpr hc, ?_, by decide⟩
        show s_op S (dl s ((40 * i + p) / 40)) _ = 1
        rw [e1, e2]; exact h
    · intro c _ hn
      unfold c_nm
      rw [bsO_ks, if_neg hn]
      rfl
  have hno : c_no (bsO s (40 * i + p) n q) = c_no s := by
    unfold c_no; rw [bsO_mn _ _ _ _ _ (by decide)]
  refine ⟨H1, ?_, H3, H4, ?_⟩
  · show sumN (c_st S (bsO s (40 * i + p) n q)) (40 * de s) + _ ≤ c_no (bsO s (40 * i + p) n q) + sumN (c_nm S (bsO s (40 * i + p) n q)) (40 * de s) + wn
    rw [hst, hnm, hno]; omega
  · rw [hno]; exact H5
theorem bCnt_keep {S : zG} {s : zD} {c n : Nat} {x v : Int32} {μ : zM} {wn wr cr ps ob oe : Nat} (hk : ks s c = hz_n 1) (hx : x ≠ hz_n 0) (hm : bKm s c μ)
    (H : bCnt S s wn wr cr ps ob oe) : bCnt S (bsK s c n x v μ) wn wr cr ps ob oe := by
  have hs : ∀ y, ks (bsK s c n x v μ) y ≠ hz_n 0 ↔ ks s y ≠ hz_n 0 := by
    intro y
    rw [bsK_ks]
    by_cases e : y = c
    · rw [if_pos e, e, hk]; exact ⟨fun _ => by decide, fun _ => hx⟩
    · rw [if_neg e]
  have h1 : c_st S (bsK s c n x v μ) = c_st S s := by
    funext y; unfold c_st; rw [hs y]; rfl
  have h2 : c_nm S (bsK s c n x v μ) = c_nm S s := by
    funext y; unfold c_nm; rw [hs y]; rfl
  have h3 : c_no (bsK s c n x v μ) = c_no s := by
    unfold c_no
    show sumN (fun l => ind (μ.2 32 l ≠ _)) 26 = _
    rw [hm.2.1 32 (by decide) (by decide)]
  unfold bCnt at *
  rw [h1, h2, h3]
  exact H
theorem bCnt_atom {S : zG} {s : zD} {i p w : Nat} {m : Int} {wn wr cr ps ob oe : Nat} (hp : p < 40) (ho : ¬ bOwn S (dl s i) p)
    (H : bCnt S s wn wr cr ps ob oe) : bCnt S (bsA s (40 * i + p) m w) wn wr cr ps ob oe := by
  have e1 : (40 * i + p) / 40 = i := by omega
  have e2 : (40 * i + p) % 40 = p := by omega
  have h1 : c_om S (bsA s (40 * i + p) m w) = c_om S s := by
    funext y; unfold c_om
    refine ind_c ?_
    by_cases e : y = 40 * i + p
    · subst e
      constructor
      · rintro ⟨_, a2, _⟩; exact absurd (by have a3 : bOwn S (dl s ((40 * i + p) / 40)) ((40 * i + p) % 40) := a2; rw [e1, e2] at a3; exact a3) ho
      · rintro ⟨_, a2, _⟩; rw [e1, e2] at a2; exact absurd a2 ho
    · rw [bsA_g, if_neg e]; exact Iff.rfl
  have h2 : c_st S (bsA s (40 * i + p) m w) = c_st S s := by
    funext y; unfold c_st
    refine ind_c ?_
    by_cases e : y = 40 * i + p
    · subst e
      constructor
      · rintro ⟨_, a2, _⟩; exact absurd (by have a3 : bOwn S (dl s ((40 * i + p) / 40)) ((40 * i + p) % 40) := a2; rw [e1, e2] at a3; exact a3) ho
      · rintro ⟨_, a2, _⟩; rw [e1, e2] at a2; exact absurd a2 ho
    · rw [bsA_g, if_neg e]; exact Iff.rfl
  unfold bCnt at *
  rw [h1, h2]
  exact H
theorem bCnt_make {S : zG} {s : zD} {i p n : Nat} {a : Int} {wn wr cr ps ob oe : Nat} (hi : i < de s) (hp : p < 40) (hc : s_cl S (dl s i) p = 1) (h0 : ks s (40 * i + p) = hz_n 0) (ho : bOwn S (dl s i) p) (hg : dg s (40 * i + p) = none)
    (H : bCnt S s wn wr cr ps ob oe) : bCnt S (bsM s (40 * i + p) a n) wn wr cr ps ob oe := by
  obtain ⟨H1, H2, H3, H4, H5⟩ := H
  have e1 : (40 * i + p) / 40 = i := by omega
  have e2 : (40 * i + p) % 40 = p := by omega
  have hom : sumN (c_om S (bsM s (40 * i + p) a n)) (40 * de s) = sumN (c_om S s) (40 * de s) + 1 := by
    refine sumN_upd (a := 40 * i + p) (by omega) ?_ ?_
    · unfold c_om
      have z : ind (bX S s (40 * i + p) ∧ bOwn S (dl s ((40 * i + p) / 40)) ((40 * i + p) % 40) ∧ dg s (40 * i + p) ≠ none) = 0 := ind_f (fun h => h.2.2 hg)
      rw [z, Nat.zero_add]
      refine ind_t ⟨(bX_of hp).mpr hc, ?_, ?_⟩
      · show bOwn S (dl s ((40 * i + p) / 40)) _
        rw [e1, e2]; exact ho
      · rw [bsM_g, if_pos rfl]; simp
    · intro c _ hn
      unfold c_om
      rw [bsM_g, if_neg hn]
      rfl
  have hst : c_st S (bsM s (40 * i + p) a n) = c_st S s := by
    funext y; unfold c_st
    refine ind_c ?_
    by_cases e : y = 40 * i + p
    · subst e
      constructor
      · rintro ⟨_, _, _, a4⟩; exact absurd h0 a4
      · rintro ⟨_, _, _, a4⟩; exact absurd h0 a4
    · rw [bsM_g, if_neg e]; exact Iff.rfl
  have hno : c_no (bsM s (40 * i + p) a n) = c_no s := by
    unfold c_no; rw [bsM_mn _ _ _ _ _ (by decide) (by decide) (by decide)]
  refine ⟨?_, ?_, H3, H4, ?_⟩
  · show dnp s + 1 = sumN (c_om S (bsM s (40 * i + p) a n)) (40 * de s)
    rw [hom, ← H1]
  · rw [hst, hno]; exact H2
  · rw [hno]; exact H5
theorem bCnt_grow {S : zG} {s : zD} {μ : zM} {nc nb wn wr cr ps ob oe : Nat} (h : bRm s μ nc nb) (ps' : Nat) (hp : nc + dnb s + ps ≤ nb + ps' + dnc s) (H : bCnt S s wn wr cr ps ob oe) : bCnt S (bsR s μ nc nb) wn wr cr ps' (ob + (nb - dnb s)) oe := by
  obtain ⟨H1, H2, H3, H4, H5⟩ := H
  obtain ⟨⟨a1, a2, a3, a4⟩, _, c, _⟩ := h
  have hno : c_no (bsR s μ nc nb) = c_no s := by
    unfold c_no
    show sumN (fun l => ind (μ.2 32 l ≠ _)) 26 = _
    rw [c 32 (by decide) (by decide)]
  refine ⟨H1, ?_, ?_, ?_, ?_⟩
  · rw [hno]; exact H2
  · show nb = sumN (c_dd s) (40 * de s) + _; omega
  · show nc ≤ nb + 12 * de s + 12 * wr + ps'; omega
  · rw [hno]; exact H5
theorem bCnt_assign {S : zG} {s : zD} {b t wn wr cr ps ob oe : Nat} (hb : b < 40 * de s) (hd : dd s b = none) (H : bCnt S s wn wr cr ps (ob + 1) oe) : bCnt S (bsD s b t) wn wr cr ps ob oe := by
  obtain ⟨H1, H2, H3, H4, H5⟩ := H
  have h6 : ∀ y, ks (bsD s b t) y = ks s y := fun y => bsD_k s b t 6 y (by decide)
  have hst : c_st S (bsD s b t) = c_st S s := by funext y; unfold c_st; rw [h6 y]; rfl
  have hnm : c_nm S (bsD s b t) = c_nm S s := by funext y; unfold c_nm; rw [h6 y]; rfl
  have hdd : sumN (c_dd (bsD s b t)) (40 * de s) = sumN (c_dd s) (40 * de s) + 1 := by
    refine sumN_upd (a := b) hb ?_ ?_
    · unfold c_dd
      rw [bsD_d, if_pos rfl, ind_t (by simp), ind_f (by simp [hd])]
    · intro c _ hn
      unfold c_dd; rw [bsD_d, if_neg hn]
  refine ⟨H1, ?_, ?_, H4, H5⟩
  · rw [hst, hnm]; exact H2
  · show dnb s = sumN (c_dd (bsD s b t)) (40 * de s) + ob
    rw [hdd]; omega
theorem bCnt_const {S : zG} {s : zD} {l c q wn wr cr ps ob oe : Nat} (hl : l < 26) (h0 : (dm s).2 32 l = hz_n (-1)) (hq : q ≤ 2000) (H : bCnt S s wn wr cr ps ob (oe + 1)) : bCnt S (bsC s l c q) wn wr (cr + 1) ps ob oe := by
  obtain ⟨H1, H2, H3, H4, H5⟩ := H
  have h6 : ∀ y, ks (bsC s l c q) y = ks s y := fun y => by show (dk (bsC s l c q)).2.1 6 y = _; rw [bsC_kn _ _ _ _ _ (by decide)]
  have hst : c_st S (bsC s l c q) = c_st S s := by funext y; unfold c_st; rw [h6 y]; rfl
  have hnm : c_nm S (bsC s l c q) = c_nm S s := by funext y; unfold c_nm; rw [h6 y]; rfl
  have hno : c_no (bsC s l c q) = c_no s + 1 := by
    unfold c_no
    refine sumN_upd (a := l) hl ?_ ?_
    · rw [bsC_m, if_pos rfl, if_pos rfl, ind_t, ind_f (by simp [h0])]
      intro e
      have := zn_inj (by omega) (by omega) e
      omega
    · intro c _ hn
      rw [bsC_m, if_pos rfl, if_neg hn]
  refine ⟨H1, ?_, H3, H4, ?_⟩
  · rw [hst, hnm, hno]
    show sumN (c_st S s) (40 * de s) + (cr + 1) ≤ c_no s + 1 + sumN (c_nm S s) (40 * de s) + wn
    omega
  · rw [hno]
    show c_pe S s ≤ _
    omega

theorem bCnt_enter {S : zG} {dfs : Nat → Option Nat} {ST : Nat → Nat → Int32} {F l0 am : Nat} {s : zD} {κ : zK} {μ : zM} {l : Nat} {a : Nat → Nat} {T : zT} {wn wr cr ps ob oe : Nat} (D : bDefs ST F S s) (I : bInv S dfs ST l0 am s) (DT : bDef ST F S T l) (h : bEk s κ (s_n S l) (s_pc S l) a (dfs l)) (hm : μ.2 = (dm s).2)
    (H : bCnt S s wn wr cr (ps + 12) (ob + s_pc S l) oe) : bCnt S (bsE s κ μ l (s_pc S l) a) wn wr cr ps ob (oe + ind (s_pc S l = 0)) := by
  obtain ⟨i1, i2, i3, i4, i5, i6, i7, i8⟩ := id I
  have hdd : ∀ c, 40 * de s ≤ c → dd s c = none := by
    intro c hc
    cases hx : dd s c with
    | none => rfl
    | some t =>
      obtain ⟨_, _, i, p, e1, e2, e3⟩ := i6 c t hx
      obtain ⟨T', DT'⟩ := D i e2
      have := DT'.2.2.2.2.2.2.2.2.2.2.2.2.1 p e3; have := DT'.2.1
      omega
  have hgg : ∀ c, 40 * de s ≤ c → dg s c = none := by
    intro c hc
    cases hx : dg s c with
    | none => rfl
    | some t =>
      obtain ⟨_, _, i, p, e1, e2, e3⟩ := i5 c t hx
      obtain ⟨T', DT'⟩ := D i e2
      have := bKid_lt DT' e3
      omega
  obtain ⟨H1, H2, H3, H4, H5⟩ := H
  obtain ⟨⟨h0, h1, h2, h3⟩, h4, h5, h6, h7, h8, h9, h10, h11⟩ := id h
  have hln : ∀ i, i < de s → dl (bsE s κ μ l (s_pc S l) a) i = dl s i := by
    intro i hi
    show (if i = de s then l else dl s i) = _; rw [if_neg (by omega)]
  have hle : dl (bsE s κ μ l (s_pc S l) a) (de s) = l := by
    show (if de s = de s then l else dl s _) = _; rw [if_pos rfl]
  have hpcn := DT.2.2.2.1
  have hpn := DT.2.1
  have e40 : 40 * (de s + 1) = 40 * de s + 40 := by omega
  have hno : c_no (bsE s κ μ l (s_pc S l) a) = c_no s := by
    unfold c_no
    show sumN (fun l => ind (μ.2 32 l ≠ _)) 26 = _
    rw [hm]
  have hom : sumN (c_om S (bsE s κ μ l (s_pc S l) a)) (40 * (de s + 1)) = sumN (c_om S s) (40 * de s) := by
    rw [e40, sumN_zero]
    · refine sumN_congr fun c hc => ?_
      unfold c_om bX; rw [hln (c / 40) (by omega)]; rfl
    · intro c c1 c2
      exact ind_f (fun h => h.2.2 (hgg c c1))
  have hst : sumN (c_st S (bsE s κ μ l (s_pc S l) a)) (40 * (de s + 1)) = sumN (c_st S s) (40 * de s) := by
    rw [e40, sumN_zero]
    · refine sumN_congr fun c hc => ?_
      have : ks (bsE s κ μ l (s_pc S l) a) c = ks s c := h5 c (by omega)
      unfold c_st bX; rw [hln (c / 40) (by omega), this]; rfl
    · intro c c1 c2
      exact ind_f (fun h => h.2.2.1 (hgg c c1))
  have hnm : sumN (c_nm S (bsE s κ μ l (s_pc S l) a)) (40 * (de s + 1)) = sumN (c_nm S s) (40 * de s) := by
    rw [e40, sumN_zero]
    · refine sumN_congr fun c hc => ?_
      have : ks (bsE s κ μ l (s_pc S l) a) c = ks s c := h5 c (by omega)
      unfold c_nm bX; rw [hln (c / 40) (by omega), this]
    · intro c c1 c2
      refine ind_f (fun h => h.2.2 ?_)
      have e1 : c / 40 = de s := by omega
      have hx := h.1
      unfold bX at hx
      rw [e1, hle] at hx
      have := (DT.2.2.2.2.2.2.2.2.2.2.2.2.2 _ hx).1
      exact h6 c c1 (by omega)
  have hd : sumN (c_dd (bsE s κ μ l (s_pc S l) a)) (40 * (de s + 1)) = sumN (c_dd s) (40 * de s) + s_pc S l := by
    have e : 40 * (de s + 1) = 40 * de s + s_pc S l + (40 - s_pc S l) := by omega
    rw [e, sumN_zero, sumN_ones (m := 1)]
    · rw [Nat.mul_one]
      congr 1
      refine sumN_congr fun c hc => ?_
      unfold c_dd
      show ind ((if 40 * de s ≤ c ∧ c < 40 * de s + s_pc S l then _ else dd s c) ≠ none) = _
      rw [if_neg (by omega)]
    · intro c c1 c2
      refine ind_t ?_
      show (if 40 * de s ≤ c ∧ c < 40 * de s + s_pc S l then some (a (c - 40 * de s)) else dd s c) ≠ none
      rw [if_pos (by omega)]; simp
    · intro c c1 c2
      refine ind_f ?_
      show ¬ (if 40 * de s ≤ c ∧ c < 40 * de s + s_pc S l then some (a (c - 40 * de s)) else dd s c) ≠ none
      rw [if_neg (by omega), hdd c (by omega)]; simp
  have hpe : c_pe S (bsE s κ μ l (s_pc S l) a) = c_pe S s + ind (s_pc S l = 0) := by
    unfold c_pe
    show sumN (fun i => ind (s_pc S (dl (bsE s κ μ l (s_pc S l) a) i) = 0)) (de s) + ind (s_pc S (dl (bsE s κ μ l (s_pc S l) a) (de s)) = 0) = _
    rw [hle]
    congr 1
    refine sumN_congr fun c hc => ?_
    rw [hln c hc]
  refine ⟨?_, ?_, ?_, ?_, ?_⟩
  · show dnp s = sumN _ (40 * (de s + 1)); rw [hom]; exact H1
  · show sumN _ (40 * (de s + 1)) + cr ≤ _ + sumN _ (40 * (de s + 1)) + wn
    rw [hst, hnm, hno]; exact H2
  · show dnb s = sumN _ (40 * (de s + 1)) + ob
    rw [hd]; omega
  · show dnc s ≤ dnb s + 12 * (de s + 1) + 12 * wr + ps
    omega
  · rw [hpe, hno]; omega
-- the reference's state as far as it is known
def bAg (s : zD) (μ : zM) : Prop := (μ.1 15 = (dm s).1 15 ∧ μ.1 17 = (dm s).1 17 ∧ μ.1 19 = (dm s).1 19 ∧ μ.1 20 = (dm s).1 20)
  ∧ (∀ b, 18 ≤ b → b ≤ 36 → b ≠ 33 → μ.2 b = (dm s).2 b) ∧ (∀ j, j < dnc s → μ.2 33 j = (dm s).2 33 j)
-- what an evaluation leaves alone
def bRest (μ μ' : zM) : Prop := (∀ b, b ≠ 15 → b ≠ 17 → μ'.1 b = μ.1 b) ∧ (μ'.2 17 = μ.2 17 ∧ μ'.2 16 = μ.2 16) ∧ μ'.2 33 = μ.2 33 ∧ μ'.2 37 = μ.2 37 ∧ μ'.2 38 = μ.2 38
theorem bRest_refl (μ : zM) : bRest μ μ := ⟨fun _ _ _ => rfl, ⟨rfl, rfl⟩, rfl, rfl, rfl⟩
theorem bRest_trans {μ μ' μ'' : zM} (h : bRest μ μ') (h' : bRest μ' μ'') : bRest μ μ'' :=
  ⟨fun b b1 b2 => by rw [h'.1 b b1 b2, h.1 b b1 b2], ⟨by rw [h'.2.1.1, h.2.1.1], by rw [h'.2.1.2, h.2.1.2]⟩, by rw [h'.2.2.1, h.2.2.1], by rw [h'.2.2.2.1, h.2.2.2.1], by rw [h'.2.2.2.2, h.2.2.2.2]⟩
theorem m_look_up {μ : zM} {v : Int32} {k : Int32} : ∀ {f f' : Nat} {a : Int32}, f ≤ f' → m_look μ v f a = some k → m_look μ v f' a = some k
  | 0, _, _, _, h => by simp [m_look] at h
  | f + 1, f', a, hf, h => by
    obtain ⟨g, rfl⟩ : ∃ g, f' = g + 1 := ⟨f' - 1, by omega⟩
    unfold m_look at h ⊢
    split
    · rename_i hc
      rw [if_pos hc] at h
      split
      · rename_i hv; rw [if_pos hv] at h; exact h
      · rename_i hv; rw [if_neg hv] at h; exact m_look_up (by omega) h
    · rename_i hc; rw [if_neg hc] at h; exact absurd h (by simp)
theorem m_look_c {μ μ' : zM} {v : Int32} (h34 : μ'.2 34 = μ.2 34) (h36 : μ'.2 36 = μ.2 36) : ∀ {f : Nat} {a : Int32}, m_look μ' v f a = m_look μ v f a
  | 0, _ => rfl
  | f + 1, a => by unfold m_look; rw [h34, h36, m_look_c h34 h36]
theorem m_lookT {F : Nat} {S : zG} {s : zD} {μ : zM} (hF : 951 ≤ F) (ag : bAg s μ) (hb : dnb s ≤ 950) {i l p v b : Nat} {a : Int} (e : bEnv S s i l p a) (h : s_sc S l p v = some b) :
    ∃ (t : Nat) (m : Int), dd s (40 * i + b) = some t ∧ dg s t = some m ∧ m_looked μ F (hz_n v) (hz_n a) = some (hz_n m) := by
  obtain ⟨t, m, k, h1, h2, h3, h4, h5⟩ := e.2.2 v b h
  refine ⟨t, m, h1, h2, ?_⟩
  unfold m_looked
  have ha := e.2.1
  have : (a + 1).toNat ≤ F := by omega
  rw [m_look_c (μ := dm s) (ag.2.1 34 (by decide) (by decide) (by decide)) (ag.2.1 36 (by decide) (by decide) (by decide)), m_look_up this h3, Option.bind_some, zt k (by omega), Int.toNat_natCast, ag.2.1 35 (by decide) (by decide) (by decide), h5]
theorem m_np {μ : zM} {np : Nat} {n : Nat} {a : Int} (h : μ.1 15 = hz_n np) (hl : np < 1000) : m_newPromise μ (hz_n n) (hz_n a) = mS (mA (mA (mA μ 28 np (hz_n 0)) 29 np (hz_n n)) 30 np (hz_n a)) 15 (hz_n (np + 1 : Nat)) := by
  unfold m_newPromise
  rw [h, zt np (by omega), Int.toNat_natCast, zn1]
theorem m_promT {E : Nat → Option zT} {dfs : Nat → Option Nat} {ST : Nat → Nat → Int32} {F l0 am : Nat} {S : zG} {s : zD} {μ : zM} (hF : 951 ≤ F) (st : bSta E dfs ST F S) (I : bInv S dfs ST l0 am s) (ag : bAg s μ)
    {i p : Nat} {a : Int} (hi : i < de s) (hc : s_cl S (dl s i) p = 1) (hr : s_ro S (dl s i) p = 1) (hg : dg s (40 * i + p) = none) (hn : dnp s < 1000)
    (hpar : ks s (40 * i + s_pa S (dl s i) p) ≠ hz_n 0) (he : bEnv S s i (dl s i) p a) :
    ∃ (m : Int) (μ' : zM) (s' : zD), m_promise μ F (hz_n (40 * dl s i + s_nd S (dl s i) p : Nat)) (hz_n a) = some (hz_n m, μ') ∧ bInv S dfs ST l0 am s' ∧ bAg s' μ' ∧ bRest μ μ' ∧ dk s' = dk s
      ∧ dg s' (40 * i + p) = some m ∧ bUp S dfs s s' (fun _ => False) (· = 40 * i + p) (fun _ => False) (fun _ => False)
      ∧ (dl s' = dl s ∧ dd s' = dd s ∧ de s' = de s ∧ dnc s' = dnc s ∧ dnb s' = dnb s ∧ dnp s' ≤ dnp s + 1 ∧ (dm s').2 37 = (dm s).2 37 ∧ (dm s').2 38 = (dm s).2 38)
      ∧ (∀ wn wr cr ps ob oe, bCnt S s wn wr cr ps ob oe → bCnt S s' wn wr cr ps ob oe) := by
  obtain ⟨T, D⟩ := bDefs_of st I i hi
  obtain ⟨sh, hp, h5, h6⟩ := zsg st I hi hc
  have hN := D.2.2.2.2.2.2.2.2.2.2.2.2.2 p hc
  obtain ⟨i1, i2, i3, i4, i5, i6, i7, i8⟩ := id I
  have hl := (i3 i hi).1
  have hb : dnb s ≤ 950 := i2.2.2.2.2.2.2.2.2.2.2.2.2.2
  have hop := bShop sh
  have e21 : μ.2 21 = ST 21 := by rw [ag.2.1 21 (by decide) (by decide) (by decide)]; exact i1.1 21 (by decide) (by decide)
  have e22 : μ.2 22 = ST 22 := by rw [ag.2.1 22 (by decide) (by decide) (by decide)]; exact i1.1 22 (by decide) (by decide)
  have hx : m_promise μ F (hz_n (40 * dl s i + s_nd S (dl s i) p : Nat)) (hz_n a) = m_promise μ F (hz_n (40 * dl s i + s_nd S (dl s i) p : Nat)) (hz_n a) := rfl
  conv at hx => rhs; unfold m_promise
  rw [zt _ (by omega), zgd_t (by omega), Int.toNat_natCast, e21, e22, hN.2.2.2.2.2.2.2.2.1, zt (s_op S (dl s i) p) (by omega)] at hx
  have nown : s_op S (dl s i) p < 5 → ¬ bOwn S (dl s i) p := by
    intro h ho; rcases ho with ho | ho | ho <;> omega
  by_cases o1 : s_op S (dl s i) p = 1
  · obtain ⟨b1, b2, b3, b4⟩ := bSh1 sh o1
    obtain ⟨t, m, t1, t2, t3⟩ := m_lookT hF ag hb he b3
    rw [if_pos (by omega), hN.2.2.2.2.2.2.2.2.2.1 (by omega), t3, Option.bind_some] at hx
    have hm := i5 t m t2
    refine ⟨m, μ, bsA s (40 * i + p) m (dw s t + 1), hx, bMakeA st I hi hc hr (by omega) hg ⟨hm.1, hm.2.1⟩ hpar (Or.inl ⟨o1, t, t1, t2, Nat.lt_succ_self _⟩), ag, bRest_refl _, rfl, by rw [bsA_g, if_pos rfl], bA_up hg i7, ⟨rfl, rfl, rfl, rfl, rfl, Nat.le_succ _, rfl, rfl⟩, fun _ _ _ _ _ _ h => bCnt_atom hp (nown (by omega)) h⟩
  · rw [if_neg (by omega)] at hx
    by_cases o2 : s_op S (dl s i) p = 2
    · have b1 := bSh2 sh o2
      rw [if_pos (by omega), hN.2.2.2.2.2.2.2.2.2.1 (by omega), zn_sub] at hx
      refine ⟨-1 - (s_vl S (dl s i) p : Int), μ, bsA s (40 * i + p) (-1 - (s_vl S (dl s i) p : Int)) 0, hx, bMakeA st I hi hc hr (by omega) hg (by omega) hpar (Or.inr (Or.inl ⟨o2, rfl⟩)), ag, bRest_refl _, rfl, by rw [bsA_g, if_pos rfl], bA_up hg i7, ⟨rfl, rfl, rfl, rfl, rfl, Nat.le_succ _, rfl, rfl⟩, fun _ _ _ _ _ _ h => bCnt_atom hp (nown (by omega)) h⟩
    · rw [if_neg (by omega)] at hx
      by_cases o3 : s_op S (dl s i) p = 3
      · have b1 := bSh3 sh o3
        rw [if_pos (by omega), hN.2.2.2.2.2.2.2.2.2.1 (by omega), zn_sub] at hx
        refine ⟨-30 - (s_vl S (dl s i) p : Int), μ, bsA s (40 * i + p) (-30 - (s_vl S (dl s i) p : Int)) 0, hx, bMakeA st I hi hc hr (by omega) hg (by omega) hpar (Or.inr (Or.inr (Or.inl ⟨o3, rfl⟩))), ag, bRest_refl _, rfl, by rw [bsA_g, if_pos rfl], bA_up hg i7, ⟨rfl, rfl, rfl, rfl, rfl, Nat.le_succ _, rfl, rfl⟩, fun _ _ _ _ _ _ h => bCnt_atom hp (nown (by omega)) h⟩
      · rw [if_neg (by omega)] at hx
        by_cases o4 : s_op S (dl s i) p = 4
        · rw [if_pos (by omega)] at hx
          refine ⟨-20, μ, bsA s (40 * i + p) (-20) 0, hx, bMakeA st I hi hc hr (by omega) hg (by omega) hpar (Or.inr (Or.inr (Or.inr ⟨o4, rfl⟩))), ag, bRest_refl _, rfl, by rw [bsA_g, if_pos rfl], bA_up hg i7, ⟨rfl, rfl, rfl, rfl, rfl, Nat.le_succ _, rfl, rfl⟩, fun _ _ _ _ _ _ h => bCnt_atom hp (nown (by omega)) h⟩
        · have h15 : μ.1 15 = hz_n (dnp s) := by rw [ag.1.1]; exact i2.2.2.2.2.2.2.2.2.1
          have ho : bOwn S (dl s i) p := Or.inr (Or.inr ⟨hr, by omega⟩)
          have hk0 := (i8 i p hi hc).2.2 (Or.inl hr) hg
          rw [if_neg (by omega), h15, zt (dnp s) (by omega), zgd_t (by omega), m_np h15 hn, zn_add, zn_sub] at hx
          have e1 : (dnp s : Int) + 1 - 1 = dnp s := by omega
          rw [e1] at hx
          refine ⟨dnp s, _, bsM s (40 * i + p) a (40 * dl s i + s_nd S (dl s i) p), hx, bMakeO st I hi hc ho hg hk0 hn (fun _ => hpar) he, ?_, ?_, rfl, by rw [bsM_g, if_pos rfl], bM_up hg i7, ⟨rfl, rfl, rfl, rfl, rfl, Nat.le_refl _, bsM_mn _ _ _ _ _ (by decide) (by decide) (by decide), bsM_mn _ _ _ _ _ (by decide) (by decide) (by decide)⟩, fun _ _ _ _ _ _ h => bCnt_make hi hp hc hk0 ho hg h⟩
          · refine ⟨⟨rfl, ag.1.2.1, ag.1.2.2.1, ag.1.2.2.2⟩, ?_, ?_⟩
            · intro b b1 b2 b3
              funext x
              rw [bsM_m, mS2, mA2, mA2, mA2]
              simp only [mA2]
              rw [ag.2.1 28 (by decide) (by decide) (by decide), ag.2.1 29 (by decide) (by decide) (by decide), ag.2.1 30 (by decide) (by decide) (by decide), ag.2.1 b b1 b2 b3]
              simp
            · intro j hj
              rw [mS2, mA2n _ _ _ _ _ (by decide), mA2n _ _ _ _ _ (by decide), mA2n _ _ _ _ _ (by decide), bsM_mn _ _ _ _ _ (by decide) (by decide) (by decide)]
              exact ag.2.2 j hj
          · refine ⟨?_, ⟨?_, ?_⟩, ?_, ?_, ?_⟩
            · intro b b1 b2; rw [mS1, if_neg b1]; rfl
            all_goals rw [mS2, mA2n _ _ _ _ _ (by decide), mA2n _ _ _ _ _ (by decide), mA2n _ _ _ _ _ (by decide)]
