theorem zn_ti {k : Int} (h : -2147483648 ≤ k ∧ k ≤ 2147483647) : (hz_n k).toInt = k := by
  unfold hz_n; rw [Int32.toInt_ofInt]; simp [Int.bmod]; omega
theorem zn_add (a b : Int) : hz_n a + hz_n b = hz_n (a + b) := by unfold hz_n; exact (Int32.ofInt_add a b).symm
theorem zn_sub (a b : Int) : hz_n a - hz_n b = hz_n (a - b) := by unfold hz_n; exact (Int32.ofInt_sub a b).symm
theorem zn_mul (a b : Int) : hz_n a * hz_n b = hz_n (a * b) := by unfold hz_n; exact (Int32.ofInt_mul a b).symm
theorem zn_of (x : Int32) : hz_n x.toInt = x := by unfold hz_n; exact Int32.ofInt_toInt x
theorem zn_inj {a b : Int} (ha : -2147483648 ≤ a ∧ a ≤ 2147483647) (hb : -2147483648 ≤ b ∧ b ≤ 2147483647) (h : hz_n a = hz_n b) : a = b := by
  rw [← zn_ti ha, ← zn_ti hb, h]
theorem zn_div {a b : Int} (ha : 0 ≤ a ∧ a ≤ 2147483647) (hb : 1 ≤ b ∧ b ≤ 2147483647) : hz_n a / hz_n b = hz_n (a / b) := by
  apply Int32.toInt_inj.mp
  have h1 : 0 ≤ a / b := Int.ediv_nonneg ha.1 (by omega)
  have h2 : a / b ≤ a := Int.ediv_le_self b ha.1
  rw [Int32.toInt_div, zn_ti (by omega), zn_ti (by omega), zn_ti (by omega), Int.tdiv_eq_ediv_of_nonneg ha.1]
  simp [Int.bmod]; omega
theorem zgd_t {α : Type} {p : Prop} {x : Option α} (h : p) : zgd p x = x := by unfold zgd; simp [h]
theorem kS1 (κ : zK) (n : Nat) (x : Int32) (m : Nat) : (kS κ n x).1 m = if m = n then x else κ.1 m := rfl
theorem kS2 (κ : zK) (n : Nat) (x : Int32) : (kS κ n x).2 = κ.2 := rfl
theorem kA1 (κ : zK) (a j : Nat) (x : Int32) : (kA κ a j x).1 = κ.1 := rfl
theorem kA2 (κ : zK) (a j : Nat) (x : Int32) (b k : Nat) : (kA κ a j x).2.1 b k = if b = a then (if k = j then x else κ.2.1 a k) else κ.2.1 b k := by
  unfold kA va_up upd; simp only; split <;> simp_all
theorem kA3 (κ : zK) (a j : Nat) (x : Int32) : (kA κ a j x).2.2 = κ.2.2 := rfl
theorem kQ1 (κ : zK) (a j : Nat) (x : Option Nat) : (kQ κ a j x).1 = κ.1 := rfl
theorem kQ2 (κ : zK) (a j : Nat) (x : Option Nat) : (kQ κ a j x).2.1 = κ.2.1 := rfl
theorem kQ3 (κ : zK) (a j : Nat) (x : Option Nat) (b k : Nat) : (kQ κ a j x).2.2 b k = if b = a then (if k = j then x else κ.2.2 a k) else κ.2.2 b k := by
  unfold kQ va_up; simp only; split <;> simp_all
theorem mS1 (μ : zM) (n : Nat) (x : Int32) (m : Nat) : (mS μ n x).1 m = if m = n then x else μ.1 m := rfl
theorem mS2 (μ : zM) (n : Nat) (x : Int32) : (mS μ n x).2 = μ.2 := rfl
theorem mA1 (μ : zM) (a j : Nat) (x : Int32) : (mA μ a j x).1 = μ.1 := rfl
theorem mA2 (μ : zM) (a j : Nat) (x : Int32) (b k : Nat) : (mA μ a j x).2 b k = if b = a then (if k = j then x else μ.2 a k) else μ.2 b k := by
  unfold mA va_up upd; simp only; split <;> simp_all
theorem mA2n (μ : zM) (a j : Nat) (x : Int32) (b : Nat) (h : b ≠ a) : (mA μ a j x).2 b = μ.2 b := by
  funext k; rw [mA2]; simp [h]
theorem kA2n (κ : zK) (a j : Nat) (x : Int32) (b : Nat) (h : b ≠ a) : (kA κ a j x).2.1 b = κ.2.1 b := by
  funext k; rw [kA2]; simp [h]
theorem zn1 (c : Nat) : hz_n (c : Int) + hz_n 1 = hz_n ((c + 1 : Nat) : Int) := by rw [zn_add]; rfl
theorem zn2 (c : Nat) : hz_n (c : Int) + hz_n 2 = hz_n ((c + 2 : Nat) : Int) := by rw [zn_add]; rfl
theorem zt (c : Nat) (h : c ≤ 2147483647) : (hz_n (c : Int)).toInt = c := zn_ti (by omega)

-- static ghost: S.1 k l p: 0 node 1 class of place (1 expression, 2 binder) 2 parent 3 role 4 owner of a binder 5 sign 6 next 7 binder 8 op 9 val 10 more 11 parameters 12 length; S.2: scope
abbrev zG : Type := (Nat → Nat → Nat → Nat) × (Nat → Nat → Nat → Option Nat)
def s_nd (S : zG) (l p : Nat) : Nat := S.1 0 l p
def s_cl (S : zG) (l p : Nat) : Nat := S.1 1 l p
def s_pa (S : zG) (l p : Nat) : Nat := S.1 2 l p
def s_ro (S : zG) (l p : Nat) : Nat := S.1 3 l p
def s_ow (S : zG) (l p : Nat) : Nat := S.1 4 l p
def s_sg (S : zG) (l p : Nat) : Nat := S.1 5 l p
def s_nx (S : zG) (l p : Nat) : Nat := S.1 6 l p
def s_bi (S : zG) (l p : Nat) : Nat := S.1 7 l p
def s_op (S : zG) (l p : Nat) : Nat := S.1 8 l p
def s_vl (S : zG) (l p : Nat) : Nat := S.1 9 l p
def s_mo (S : zG) (l p : Nat) : Nat := S.1 10 l p
def s_pc (S : zG) (l : Nat) : Nat := S.1 11 l 0
def s_n (S : zG) (l : Nat) : Nat := S.1 12 l 0
def s_sc (S : zG) (l p v : Nat) : Option Nat := S.2 l p v
def s_arg (S : zG) (l p : Nat) : Nat → Nat
  | 0 => p + 1
  | j + 1 => s_nx S l (s_arg S l p j)
def s_lp (S : zG) (l v : Nat) : Nat → Option Nat
  | 0 => none
  | k + 1 => if s_vl S l k = v then some k else s_lp S l v k
-- how the reference finds a part of a whole
def bCh (ST : Nat → Nat → Int32) (F n j n' : Nat) : Prop := ∀ μ : zM, μ.2 21 = ST 21 → μ.2 23 = ST 23 → m_child μ F (hz_n n) (hz_n j) = some (hz_n n')
def bKid (ST : Nat → Nat → Int32) (F : Nat) (S : zG) (l p j q r : Nat) : Prop :=
  s_cl S l q = 1 ∧ s_pa S l q = p ∧ s_ro S l q = r ∧ p < q ∧ bCh ST F (40 * l + s_nd S l p) j (40 * l + s_nd S l q)
def bShp (ST : Nat → Nat → Int32) (F : Nat) (S : zG) (l p : Nat) : Prop :=
  (s_op S l p = 1 ∧ s_sg S l p = 97 + s_vl S l p ∧ s_vl S l p < 26 ∧ s_sc S l p (s_vl S l p) = some (s_bi S l p) ∧ s_bi S l p < 40)
  ∨ (s_op S l p = 2 ∧ s_sg S l p = 48 + s_vl S l p ∧ s_vl S l p < 10)
  ∨ (s_op S l p = 3 ∧ s_sg S l p = 65 + s_vl S l p ∧ s_vl S l p < 26)
  ∨ (s_op S l p = 4 ∧ s_sg S l p = 126)
  ∨ (s_op S l p = 5 ∧ s_sg S l p = 58 ∧ bKid ST F S l p 0 (p + 1) 1 ∧ bKid ST F S l p 1 (s_nx S l (p + 1)) 1
      ∧ s_sc S l (p + 1) = s_sc S l p ∧ s_sc S l (s_nx S l (p + 1)) = s_sc S l p ∧ p + 1 < s_nx S l (p + 1))
  ∨ (s_op S l p = 6 ∧ s_sg S l p = 40 ∧ bKid ST F S l p 0 (p + 1) 0 ∧ s_sc S l (p + 1) = s_sc S l p ∧ 1 ≤ s_mo S l p ∧ s_mo S l p ≤ 4
      ∧ (∀ j, j < s_mo S l p → bKid ST F S l p (j + 1) (s_arg S l p (j + 1)) 1 ∧ s_arg S l p j < s_arg S l p (j + 1) ∧ s_sc S l (s_arg S l p (j + 1)) = s_sc S l p)
      ∧ s_nx S l (s_arg S l p (s_mo S l p)) = 0)
  ∨ (s_op S l p = 7 ∧ s_sg S l p = s_vl S l p ∧ (s_vl S l p = 42 ∨ s_vl S l p = 43 ∨ s_vl S l p = 45 ∨ s_vl S l p = 60 ∨ s_vl S l p = 61)
      ∧ bKid ST F S l p 0 (p + 1) 0 ∧ bKid ST F S l p 1 (s_nx S l (p + 1)) 0 ∧ p + 1 < s_nx S l (p + 1)
      ∧ s_sc S l (p + 1) = s_sc S l p ∧ s_sc S l (s_nx S l (p + 1)) = s_sc S l p)
  ∨ (s_op S l p = 8 ∧ s_sg S l p = 63 ∧ bKid ST F S l p 0 (p + 1) 0 ∧ bKid ST F S l p 1 (s_nx S l (p + 1)) 0 ∧ bKid ST F S l p 2 (s_nx S l (s_nx S l (p + 1))) 0
      ∧ p + 1 < s_nx S l (p + 1) ∧ s_nx S l (p + 1) < s_nx S l (s_nx S l (p + 1))
      ∧ s_sc S l (p + 1) = s_sc S l p ∧ s_sc S l (s_nx S l (p + 1)) = s_sc S l p ∧ s_sc S l (s_nx S l (s_nx S l (p + 1))) = s_sc S l p)
  ∨ (s_op S l p = 9 ∧ s_sg S l p = 47 ∧ bKid ST F S l p 0 (p + 1) 0 ∧ bKid ST F S l p 1 (s_nx S l (p + 1)) 0 ∧ bKid ST F S l p 2 (s_nx S l (s_nx S l (p + 1))) 0
      ∧ p + 1 < s_nx S l (p + 1) ∧ s_nx S l (p + 1) + 2 < s_nx S l (s_nx S l (p + 1)) ∧ s_vl S l p < 26 ∧ s_mo S l p < 26
      ∧ s_cl S l (s_nx S l (s_nx S l (p + 1)) - 2) = 2 ∧ s_cl S l (s_nx S l (s_nx S l (p + 1)) - 1) = 2 ∧ s_ow S l (s_nx S l (s_nx S l (p + 1)) - 2) = p ∧ s_ow S l (s_nx S l (s_nx S l (p + 1)) - 1) = p
      ∧ s_sc S l (p + 1) = s_sc S l p ∧ s_sc S l (s_nx S l (p + 1)) = s_sc S l p
      ∧ (∀ v, s_sc S l (s_nx S l (s_nx S l (p + 1))) v = if v = s_mo S l p then some (s_nx S l (s_nx S l (p + 1)) - 1) else if v = s_vl S l p then some (s_nx S l (s_nx S l (p + 1)) - 2) else s_sc S l p v))
  ∨ (s_op S l p = 10 ∧ s_sg S l p = 36 ∧ bKid ST F S l p 0 (p + 2) 2 ∧ bKid ST F S l p 1 (s_nx S l (p + 2)) 0 ∧ p + 2 < s_nx S l (p + 2) ∧ s_vl S l p < 26
      ∧ s_cl S l (p + 1) = 2 ∧ s_ow S l (p + 1) = p
      ∧ (∀ v, s_sc S l (p + 2) v = if v = s_vl S l p then some (p + 1) else s_sc S l p v)
      ∧ (∀ v, s_sc S l (s_nx S l (p + 2)) v = if v = s_vl S l p then some (p + 1) else s_sc S l p v))
def bDef (ST : Nat → Nat → Int32) (F : Nat) (S : zG) (T : zT) (l : Nat) : Prop :=
  T.1 = s_n S l ∧ s_n S l ≤ 40 ∧ s_pc S l ≤ 4 ∧ s_pc S l + 1 < s_n S l ∧ T.2.2.2.2 = hz_n (s_pc S l) ∧ ST 19 l = hz_n (s_pc S l)
  ∧ (∀ k, k < s_pc S l → ST 20 (4 * l + k) = hz_n (s_vl S l k) ∧ s_vl S l k < 26 ∧ s_cl S l k = 2 ∧ s_ow S l k = 40)
  ∧ s_cl S l (s_pc S l + 1) = 1 ∧ s_ro S l (s_pc S l + 1) = 3 ∧ (s_nd S l (s_pc S l + 1) = 0 ∧ s_pa S l (s_pc S l + 1) = 40) ∧ (∀ v, s_sc S l (s_pc S l + 1) v = s_lp S l v (s_pc S l))
  ∧ ((∀ p, s_ro S l p = 3 → p = s_pc S l + 1) ∧ ∀ p v, 26 ≤ v → s_sc S l p v = none)
  ∧ (∀ p, s_cl S l p = 2 → p < s_n S l)
  ∧ (∀ p, s_cl S l p = 1 → p < s_n S l ∧ s_pc S l < p ∧ s_nd S l p < 40 ∧ s_ro S l p ≤ 3 ∧ T.2.1 p = hz_n (s_sg S l p) ∧ T.2.2.1 p = hz_n (s_nx S l p) ∧ s_nx S l p < 40
      ∧ (s_op S l p = 1 → T.2.2.2.1 p = hz_n (s_bi S l p)) ∧ ST 21 (40 * l + s_nd S l p) = hz_n (s_op S l p)
      ∧ (s_op S l p ≠ 4 → ST 22 (40 * l + s_nd S l p) = hz_n (s_vl S l p)) ∧ (s_op S l p = 6 ∨ s_op S l p = 9 → ST 23 (40 * l + s_nd S l p) = hz_n (s_mo S l p)) ∧ bShp ST F S l p)
def bSta (E : Nat → Option zT) (dfs : Nat → Option Nat) (ST : Nat → Nat → Int32) (F : Nat) (S : zG) : Prop :=
  ∀ l, l < 26 → (dfs l = none ∧ ST 18 l = hz_n 0) ∨ (∃ d T, dfs l = some d ∧ E d = some T ∧ ST 18 l = hz_n 1 ∧ bDef ST F S T l)
-- the state of both with its ghosts
abbrev zD : Type := zK × zM × (Nat → Option Int) × (Nat → Int) × (Nat → Nat) × (Nat → Option Nat) × (Nat → Nat) × (Nat → Nat) × Nat × Nat × Nat × Nat
abbrev dk (s : zD) : zK := s.1
abbrev dm (s : zD) : zM := s.2.1
abbrev dg (s : zD) : Nat → Option Int := s.2.2.1
abbrev da (s : zD) : Nat → Int := s.2.2.2.1
abbrev dw (s : zD) : Nat → Nat := s.2.2.2.2.1
abbrev dd (s : zD) : Nat → Option Nat := s.2.2.2.2.2.1
abbrev dt (s : zD) : Nat → Nat := s.2.2.2.2.2.2.1
abbrev dl (s : zD) : Nat → Nat := s.2.2.2.2.2.2.2.1
abbrev de (s : zD) : Nat := s.2.2.2.2.2.2.2.2.1
abbrev dnp (s : zD) : Nat := s.2.2.2.2.2.2.2.2.2.1
abbrev dnc (s : zD) : Nat := s.2.2.2.2.2.2.2.2.2.2.1
abbrev dnb (s : zD) : Nat := s.2.2.2.2.2.2.2.2.2.2.2
abbrev ks (s : zD) (c : Nat) : Int32 := (dk s).2.1 6 c
abbrev kv (s : zD) (c : Nat) : Int32 := (dk s).2.1 7 c
def bChn (s : zD) (l j : Nat) : Nat → Int32 → Prop
  | 0, w => w = hz_n (-1 - (l : Int))
  | h + 1, w => ∃ (c : Nat) (a : Int), w = hz_n c ∧ c < 2000 ∧ dg s c = some a ∧ (dm s).2 33 (j + 2 + h) = hz_n a ∧ bChn s l j h ((dk s).2.1 8 c)
def bFnr (S : zG) (dfs : Nat → Option Nat) (s : zD) (w v : Int32) : Prop := ∃ l h : Nat, l < 26 ∧ h < s_pc S l ∧ dfs l ≠ none
  ∧ ((h = 0 ∧ v = hz_n (-1 - (l : Int)) ∧ w = hz_n (-1 - (l : Int))) ∨ (0 < h ∧ ∃ j : Nat, v = hz_n j ∧ j + 2 + h ≤ dnc s ∧ (dm s).2 33 j = hz_n l ∧ (dm s).2 33 (j + 1) = hz_n h ∧ bChn s l j h w))
def bPar (S : zG) (s : zD) (i p : Nat) (a b : Int) : Prop := i < de s ∧ s_cl S (dl s i) p = 1 ∧ s_op S (dl s i) p = 5 ∧ dg s (40 * i + (p + 1)) = some a ∧ dg s (40 * i + s_nx S (dl s i) (p + 1)) = some b
def bVR (S : zG) (dfs : Nat → Option Nat) (s : zD) (x w k v : Int32) : Prop :=
  (x = hz_n 2 ∧ k = hz_n 0 ∧ w = v) ∨ (x = hz_n 3 ∧ k = hz_n 1)
  ∨ (x = hz_n 4 ∧ k = hz_n 2 ∧ ∃ (i p j : Nat) (a b : Int), w = hz_n (40 * i + p : Nat) ∧ v = hz_n j ∧ j + 1 < dnc s ∧ bPar S s i p a b ∧ (dm s).2 33 j = hz_n a ∧ (dm s).2 33 (j + 1) = hz_n b)
  ∨ (x = hz_n 5 ∧ k = hz_n 3 ∧ bFnr S dfs s w v)
def bEnv (S : zG) (s : zD) (i l p : Nat) (a : Int) : Prop := -1 ≤ a ∧ a < dnb s ∧ ∀ v b, s_sc S l p v = some b →
  ∃ (t : Nat) (m : Int) (k : Nat), dd s (40 * i + b) = some t ∧ dg s t = some m ∧ m_look (dm s) (hz_n v) (a + 1).toNat (hz_n a) = some (hz_n k) ∧ k < dnb s ∧ (dm s).2 35 k = hz_n m
-- what is kept behind a code of the reference
def bNK (S : zG) (dfs : Nat → Option Nat) (s : zD) (m : Int) (k v : Int32) : Prop :=
  (0 ≤ m ∧ m.toNat < dnp s ∧ ∃ z : Nat, z ≤ 3 ∧ k = hz_n z ∧ (dm s).2 28 m.toNat = hz_n (2 + (z : Int)) ∧ (dm s).2 31 m.toNat = v)
  ∨ (-20 < m ∧ m < 0 ∧ k = hz_n 0 ∧ v = hz_n (-1 - m)) ∨ (m = -20 ∧ k = hz_n 1)
  ∨ (∃ l : Nat, l < 26 ∧ m = -30 - (l : Int) ∧ dfs l ≠ none ∧ ((0 < s_pc S l ∧ k = hz_n 3 ∧ v = hz_n (-1 - (l : Int)))
      ∨ (s_pc S l = 0 ∧ ∃ q z : Nat, (dm s).2 32 l = hz_n q ∧ q < dnp s ∧ z ≤ 3 ∧ k = hz_n z ∧ (dm s).2 28 q = hz_n (2 + (z : Int)) ∧ (dm s).2 31 q = v)))
def bOwn (S : zG) (l p : Nat) : Prop := s_ro S l p = 2 ∨ (s_ro S l p = 3 ∧ s_pc S l = 0) ∨ (s_ro S l p = 1 ∧ 5 ≤ s_op S l p)
def bAtm (S : zG) (s : zD) (i l p : Nat) (m : Int) : Prop :=
  (s_op S l p = 1 ∧ ∃ t, dd s (40 * i + s_bi S l p) = some t ∧ dg s t = some m ∧ dw s t < dw s (40 * i + p))
  ∨ (s_op S l p = 2 ∧ m = -1 - (s_vl S l p : Int)) ∨ (s_op S l p = 3 ∧ m = -30 - (s_vl S l p : Int)) ∨ (s_op S l p = 4 ∧ m = -20)
def bMde (S : zG) (dfs : Nat → Option Nat) (s : zD) (i l p : Nat) (m : Int) : Prop :=
  ((bOwn S l p ∧ ∃ q : Nat, m = q ∧ q < dnp s ∧ dt s q = 40 * i + p ∧ (dm s).2 29 q = hz_n (40 * l + s_nd S l p : Nat) ∧ (dm s).2 30 q = hz_n (da s (40 * i + p)) ∧ bEnv S s i l p (da s (40 * i + p))
      ∧ (ks s (40 * i + p) = hz_n 0 → (dm s).2 28 q = hz_n 0) ∧ (ks s (40 * i + p) = hz_n 1 → (dm s).2 28 q = hz_n 1))
    ∨ (s_ro S l p = 1 ∧ s_op S l p < 5 ∧ bAtm S s i l p m))
  ∧ (ks s (40 * i + p) = hz_n 0 ∨ ks s (40 * i + p) = hz_n 1 ∨ ∃ k v, bNK S dfs s m k v ∧ bVR S dfs s (ks s (40 * i + p)) (kv s (40 * i + p)) k v)
def bVir (S : zG) (s : zD) (i l p : Nat) : Prop :=
  (∀ q, s_cl S l q = 1 → s_pa S l q = p → (s_ro S l q = 0 → ks s (40 * i + q) = hz_n 0) ∧ dg s (40 * i + q) = none) ∧ (∀ b, s_cl S l b = 2 → s_ow S l b = p → dd s (40 * i + b) = none)
def bCel (S : zG) (dfs : Nat → Option Nat) (s : zD) (i l p : Nat) : Prop :=
  (ks s (40 * i + p) = hz_n 0 → bVir S s i l p) ∧ (∀ m, dg s (40 * i + p) = some m → bMde S dfs s i l p m)
  ∧ (s_ro S l p = 1 ∨ s_ro S l p = 2 → dg s (40 * i + p) = none → ks s (40 * i + p) = hz_n 0)
-- what holds of both between any two steps; the stack and the frames stand apart
def bInv (S : zG) (dfs : Nat → Option Nat) (ST : Nat → Nat → Int32) (l0 am : Nat) (s : zD) : Prop :=
  ((∀ k, 18 ≤ k → k ≤ 23 → (dm s).2 k = ST k) ∧ (dk s).2.2 3 = dfs)
  ∧ ((dk s).1 4 = hz_n (de s) ∧ (dm s).1 20 = hz_n (de s) ∧ (dk s).1 3 = hz_n am ∧ (dm s).1 19 = hz_n am ∧ de s ≤ am ∧ am ≤ 50 ∧ (dk s).1 2 = hz_n l0 ∧ l0 < 26
    ∧ (dm s).1 15 = hz_n (dnp s) ∧ (dm s).1 16 = hz_n (dnc s) ∧ (dm s).1 17 = hz_n (dnb s) ∧ dnp s ≤ 1000 ∧ dnc s ≤ 2600 ∧ dnb s ≤ 950)
  ∧ (∀ i, i < de s → dl s i < 26 ∧ (dk s).2.2 4 i = dfs (dl s i) ∧ dfs (dl s i) ≠ none)
  ∧ (∀ l, l < 26 → ((dk s).2.1 5 l = hz_n (-1) ∧ (dm s).2 32 l = hz_n (-1)) ∨ (dfs l ≠ none ∧ ∃ i q : Nat, i < de s ∧ dl s i = l ∧ s_pc S l = 0 ∧ q < dnp s ∧ (dk s).2.1 5 l = hz_n (40 * i + 1 : Nat) ∧ dg s (40 * i + 1) = some (q : Int) ∧ (dm s).2 32 l = hz_n q ∧ ks s (40 * i + 1) ≠ hz_n 0))
  ∧ (∀ c m, dg s c = some m → -55 ≤ m ∧ m < 1000 ∧ ∃ i p, c = 40 * i + p ∧ i < de s ∧ s_cl S (dl s i) p = 1)
  ∧ (∀ c t, dd s c = some t → kv s c = hz_n t ∧ t < 2000 ∧ ∃ i p, c = 40 * i + p ∧ i < de s ∧ s_cl S (dl s i) p = 2)
  ∧ (∀ k, k < dnb s → ∃ z : Int, (dm s).2 36 k = hz_n z ∧ -1 ≤ z ∧ z < k)
  ∧ (∀ i p, i < de s → s_cl S (dl s i) p = 1 → bCel S dfs s i (dl s i) p)

def bGrow (s s' : zD) : Prop :=
  ((∀ c m, dg s c = some m → dg s' c = some m) ∧ (∀ c t, dd s c = some t → dd s' c = some t) ∧ (∀ c, dg s c ≠ none → (dk s').2.1 8 c = (dk s).2.1 8 c))
  ∧ (dnc s ≤ dnc s' ∧ ∀ j, j < dnc s → (dm s').2 33 j = (dm s).2 33 j)
  ∧ (dnb s ≤ dnb s' ∧ ∀ k, k < dnb s → (dm s').2 34 k = (dm s).2 34 k ∧ (dm s').2 35 k = (dm s).2 35 k ∧ (dm s').2 36 k = (dm s).2 36 k)
  ∧ (de s ≤ de s' ∧ ∀ i, i < de s → dl s' i = dl s i)
  ∧ (∀ k, k < dnb s → ∃ z : Int, (dm s).2 36 k = hz_n z ∧ -1 ≤ z ∧ z < k)
theorem bChn_mono {s s' : zD} (g : bGrow s s') {l j : Nat} : ∀ {h : Nat} {w : Int32}, j + 2 + h ≤ dnc s → bChn s l j h w → bChn s' l j h w
  | 0, _, _, H => H
  | h + 1, w, hl, H => by
    obtain ⟨c, a, h1, h2, h3, h4, h5⟩ := H
    refine ⟨c, a, h1, h2, g.1.1 _ _ h3, ?_, ?_⟩
    · rw [g.2.1.2 _ (by omega)]; exact h4
    · rw [g.1.2.2 c (by rw [h3]; simp)]; exact bChn_mono g (by omega) h5
theorem bFnr_mono {S : zG} {dfs : Nat → Option Nat} {s s' : zD} (g : bGrow s s') {w v : Int32} (H : bFnr S dfs s w v) : bFnr S dfs s' w v := by
  obtain ⟨l, h, a1, a2, a3, H⟩ := H
  refine ⟨l, h, a1, a2, a3, ?_⟩
  rcases H with H | ⟨h0, j, b1, b2, b3, b4, b5⟩
  · exact Or.inl H
  · refine Or.inr ⟨h0, j, b1, Nat.le_trans b2 g.2.1.1, ?_, ?_, bChn_mono g b2 b5⟩
    · rw [g.2.1.2 _ (by omega)]; exact b3
    · rw [g.2.1.2 _ (by omega)]; exact b4
theorem bPar_mono {S : zG} {s s' : zD} (g : bGrow s s') {i p : Nat} {a b : Int} (H : bPar S s i p a b) : bPar S s' i p a b := by
  obtain ⟨h2, h3, h4, h5, h6⟩ := H
  have e : dl s' i = dl s i := g.2.2.2.1.2 i h2
  refine ⟨Nat.lt_of_lt_of_le h2 g.2.2.2.1.1, ?_, ?_, ?_, ?_⟩
  · rw [e]; exact h3
  · rw [e]; exact h4
  · exact g.1.1 _ _ h5
  · rw [e]; exact g.1.1 _ _ h6
theorem bVR_mono {S : zG} {dfs : Nat → Option Nat} {s s' : zD} (g : bGrow s s') {x w k v : Int32} (H : bVR S dfs s x w k v) : bVR S dfs s' x w k v := by
  rcases H with H | H | ⟨h1, h2, i, p, j, a, b, e1, e2, e3, e4, e5, e6⟩ | ⟨h1, h2, h3⟩
  · exact Or.inl H
  · exact Or.inr (Or.inl H)
  · refine Or.inr (Or.inr (Or.inl ⟨h1, h2, i, p, j, a, b, e1, e2, Nat.lt_of_lt_of_le e3 g.2.1.1, bPar_mono g e4, ?_, ?_⟩))
    · rw [g.2.1.2 _ (by omega)]; exact e5
    · rw [g.2.1.2 _ (by omega)]; exact e6
  · exact Or.inr (Or.inr (Or.inr ⟨h1, h2, bFnr_mono g h3⟩))
theorem bLook_mono {μ μ' : zM} {nb : Nat} (hb : nb ≤ 950) (h1 : ∀ k, k < nb → μ'.2 34 k = μ.2 34 k ∧ μ'.2 36 k = μ.2 36 k)
    (h2 : ∀ k, k < nb → ∃ z : Int, μ.2 36 k = hz_n z ∧ -1 ≤ z ∧ z < k) {v : Int32} : ∀ {f : Nat} {a : Int}, -1 ≤ a → a < nb → m_look μ' v f (hz_n a) = m_look μ v f (hz_n a)
  | 0, _, _, _ => rfl
  | f + 1, a, ha, hn => by
    unfold m_look
    rw [zn_ti (by omega)]
    split
    · rename_i hc
      have hk : a.toNat < nb := by omega
      rw [(h1 _ hk).1, (h1 _ hk).2]
      obtain ⟨z, e1, e2, e3⟩ := h2 _ hk
      rw [e1, bLook_mono hb h1 h2 (by omega) (by omega)]
    · rfl
theorem bEnv_mono {S : zG} {s s' : zD} (hb : dnb s ≤ 950) (g : bGrow s s') {i l p : Nat} {a : Int} (H : bEnv S s i l p a) : bEnv S s' i l p a := by
  refine ⟨H.1, Int.lt_of_lt_of_le H.2.1 (by have := g.2.2.1.1; omega), ?_⟩
  intro v b hv
  obtain ⟨t, m, k, h1, h2, h3, h4, h5⟩ := H.2.2 v b hv
  refine ⟨t, m, k, g.1.2.1 _ _ h1, g.1.1 _ _ h2, ?_, Nat.lt_of_lt_of_le h4 g.2.2.1.1, ?_⟩
  · rw [bLook_mono hb (fun k hk => ⟨(g.2.2.1.2 k hk).1, (g.2.2.1.2 k hk).2.2⟩) g.2.2.2.2 H.1 H.2.1]; exact h3
  · rw [(g.2.2.1.2 k h4).2.1]; exact h5
-- a step changes the cells of Z, makes the promises of Y and binds B: all other cells are as they were
def bUp (S : zG) (dfs : Nat → Option Nat) (s s' : zD) (Z Y B Q : Nat → Prop) : Prop :=
  bGrow s s' ∧ (∀ c, ¬ Z c → ks s' c = ks s c ∧ (s_cl S (dl s (c / 40)) (c % 40) = 1 → kv s' c = kv s c) ∧ (¬ Q c → (dk s').2.1 9 c = (dk s).2.1 9 c ∧ (dk s').2.1 10 c = (dk s).2.1 10 c))
  ∧ (∀ c, ¬ Y c → dg s' c = dg s c ∧ (¬ Z c → da s' c = da s c) ∧ dw s' c = dw s c) ∧ (∀ c, ¬ B c → dd s' c = dd s c)
  ∧ (∀ c, Y c → dg s c = none)
  ∧ (∀ q, q < dnp s → dt s' q = dt s q ∧ (dm s').2 29 q = (dm s).2 29 q ∧ (¬ Z (dt s q) → (dm s').2 28 q = (dm s).2 28 q)
      ∧ ((dt s' q = dt s q → ¬ Y (dt s q) → (dm s').2 30 q = (dm s).2 30 q)))
  ∧ dnp s ≤ dnp s' ∧ (∀ m k v, bNK S dfs s m k v → bNK S dfs s' m k v)
theorem bMde_up {S : zG} {dfs : Nat → Option Nat} {s s' : zD} {Z Y B Q : Nat → Prop} (hb : dnb s ≤ 950) (u : bUp S dfs s s' Z Y B Q) {i p : Nat} {m : Int} (hp : p < 40) (hc : s_cl S (dl s i) p = 1)
    (hz : ¬ Z (40 * i + p)) (hy : ¬ Y (40 * i + p)) (H : bMde S dfs s i (dl s i) p m) : bMde S dfs s' i (dl s i) p m := by
  obtain ⟨g, u2, u3, u4, u5, u6, u7, u8⟩ := u
  have e1 := u2 _ hz
  have e3 := u3 _ hy
  have hd : (40 * i + p) / 40 = i := by omega
  have hm : (40 * i + p) % 40 = p := by omega
  rw [hd, hm] at e1
  refine ⟨?_, ?_⟩
  · rcases H.1 with ⟨ho, q, a1, a2, a3, a4, a5, a6, a7, a8⟩ | ⟨h1, h2, h3⟩
    · refine Or.inl ⟨ho, q, a1, Nat.lt_of_lt_of_le a2 u7, ?_, ?_, ?_, ?_, ?_, ?_⟩
      · rw [(u6 q a2).1]; exact a3
      · rw [(u6 q a2).2.1]; exact a4
      · rw [(u6 q a2).2.2.2 (u6 q a2).1 (by rw [a3]; exact hy), e3.2.1 hz]; exact a5
      · rw [e3.2.1 hz]; exact bEnv_mono hb g a6
      · rw [e1.1, (u6 q a2).2.2.1 (by rw [a3]; exact hz)]; exact a7
      · rw [e1.1, (u6 q a2).2.2.1 (by rw [a3]; exact hz)]; exact a8
    · refine Or.inr ⟨h1, h2, ?_⟩
      rcases h3 with ⟨b1, t, b2, b3, b4⟩ | h3
      · refine Or.inl ⟨b1, t, g.1.2.1 _ _ b2, g.1.1 _ _ b3, ?_⟩
        have : ¬ Y t := fun hY => by have := u5 t hY; rw [b3] at this; simp at this
        rw [(u3 t this).2.2, e3.2.2]; exact b4
      · exact Or.inr h3
  · rw [e1.1, e1.2.1 hc]
    rcases H.2 with h | h | ⟨k, v, h1, h2⟩
    · exact Or.inl h
    · exact Or.inr (Or.inl h)
    · exact Or.inr (Or.inr ⟨k, v, u8 _ _ _ h1, bVR_mono g h2⟩)
theorem bCel_up {S : zG} {dfs : Nat → Option Nat} {s s' : zD} {Z Y B Q : Nat → Prop} (hb : dnb s ≤ 950) (u : bUp S dfs s s' Z Y B Q) {i p : Nat} (hp : p < 40) (hc : s_cl S (dl s i) p = 1)
    (hz : ¬ Z (40 * i + p)) (hy : ¬ Y (40 * i + p))
    (hv : ks s (40 * i + p) = hz_n 0 → (∀ q, s_cl S (dl s i) q = 1 → s_pa S (dl s i) q = p → (s_ro S (dl s i) q = 0 → ¬ Z (40 * i + q)) ∧ ¬ Y (40 * i + q)) ∧ (∀ b, s_cl S (dl s i) b = 2 → s_ow S (dl s i) b = p → ¬ B (40 * i + b)))
    (H : bCel S dfs s i (dl s i) p) : bCel S dfs s' i (dl s i) p := by
  obtain ⟨g, u2, u3, u4, u5, u6, u7, u8⟩ := id u
  refine ⟨?_, ?_, ?_⟩
  · intro h0
    rw [(u2 _ hz).1] at h0
    obtain ⟨w1, w2⟩ := H.1 h0
    obtain ⟨v1, v2⟩ := hv h0
    refine ⟨?_, ?_⟩
    · intro q q1 q2
      refine ⟨?_, ?_⟩
      · intro q3
        rw [(u2 _ ((v1 q q1 q2).1 q3)).1]; exact (w1 q q1 q2).1 q3
      · rw [(u3 _ (v1 q q1 q2).2).1]; exact (w1 q q1 q2).2
    · intro b b1 b2
      rw [u4 _ (v2 b b1 b2)]; exact w2 b b1 b2
  · intro m hm
    rw [(u3 _ hy).1] at hm
    exact bMde_up hb u hp hc hz hy (H.2.1 m hm)
  · intro h1 h2
    rw [(u3 _ hy).1] at h2
    rw [(u2 _ hz).1]; exact H.2.2 h1 h2

def bFrm (s : zD) (f : Nat) (w a : Nat) (b : Int32) : Prop := (dm s).2 37 f = hz_n (4096 * w + a : Nat) ∧ (dm s).2 38 f = b
def bKF (S : zG) (s : zD) (c f1 f2 : Nat) : Prop :=
  (∃ i p q : Nat, c = 40 * i + p ∧ i < de s ∧ s_cl S (dl s i) p = 1 ∧ bOwn S (dl s i) p ∧ dg s c = some (q : Int) ∧ (dm s).2 37 f1 = hz_n (4096 * 1 + q : Nat) ∧ f2 = f1 + 1)
  ∨ (f2 = f1 ∧ c = 2000) ∨ (f2 = f1 ∧ ∃ i p, c = 40 * i + p ∧ i < de s ∧ s_cl S (dl s i) p = 1 ∧ (dg s c = none ∨ ¬ bOwn S (dl s i) p))
def bRoot (S : zG) (s : zD) (d : Nat) : Prop := ∃ j, j < de s ∧ d = 40 * j + (s_pc S (dl s j) + 1)
def bW1 (S : zG) (s : zD) (i l p d f2 f : Nat) : Prop :=
  (s_op S l p = 1 ∧ dd s (40 * i + s_bi S l p) = some d ∧ dg s d ≠ none ∧ f = f2)
  ∨ (s_op S l p = 3 ∧ (dk s).2.1 5 (s_vl S l p) = hz_n d ∧ d < 2000 ∧ f = f2)
  ∨ (s_op S l p = 6 ∧ (dk s).2.1 9 (40 * i + p) = hz_n d ∧ d < 2000 ∧ ∃ u, u ≤ s_mo S l p ∧ (dk s).2.1 10 (40 * i + p) = hz_n (40 * i + s_arg S l p u : Nat)
      ∧ (∀ j, u < j → j ≤ s_mo S l p → dg s (40 * i + s_arg S l p j) = none)
      ∧ ((u = 0 ∧ d = 40 * i + (p + 1) ∧ f = f2 + 1 ∧ bEnv S s i l p (da s (40 * i + p)) ∧ bFrm s f2 2 (40 * l + s_nd S l p) (hz_n (da s (40 * i + p))))
        ∨ (0 < u ∧ u < s_mo S l p ∧ bRoot S s d ∧ f = f2 + 1 ∧ bEnv S s i l p (da s (40 * i + p)) ∧ bFrm s f2 10 (40 * l + s_nd S l p) (hz_n (8 * (da s (40 * i + p) + 1) + (u : Int))))
        ∨ (0 < u ∧ u = s_mo S l p ∧ bRoot S s d ∧ f = f2)))
  ∨ (s_op S l p = 7 ∧ ((d = 40 * i + (p + 1) ∧ ks s (40 * i + s_nx S l (p + 1)) = hz_n 0 ∧ f = f2 + 1 ∧ bEnv S s i l p (da s (40 * i + p)) ∧ bFrm s f2 3 (40 * l + s_nd S l p) (hz_n (da s (40 * i + p))))
      ∨ (d = 40 * i + s_nx S l (p + 1) ∧ ks s (40 * i + (p + 1)) = hz_n 2 ∧ f = f2 + 1 ∧ bFrm s f2 4 (40 * l + s_nd S l p) (kv s (40 * i + (p + 1))))))
  ∨ (s_op S l p = 8 ∧ ((d = 40 * i + (p + 1) ∧ ks s (40 * i + s_nx S l (p + 1)) = hz_n 0 ∧ ks s (40 * i + s_nx S l (s_nx S l (p + 1))) = hz_n 0 ∧ f = f2 + 1 ∧ bEnv S s i l p (da s (40 * i + p)) ∧ bFrm s f2 5 (40 * l + s_nd S l p) (hz_n (da s (40 * i + p))))
      ∨ (ks s (40 * i + (p + 1)) = hz_n 2 ∧ f = f2 ∧ ((d = 40 * i + s_nx S l (p + 1) ∧ kv s (40 * i + (p + 1)) ≠ hz_n 0) ∨ (d = 40 * i + s_nx S l (s_nx S l (p + 1)) ∧ kv s (40 * i + (p + 1)) = hz_n 0)))))
  ∨ (s_op S l p = 9 ∧ ((d = 40 * i + (p + 1) ∧ ks s (40 * i + s_nx S l (p + 1)) = hz_n 0 ∧ ks s (40 * i + s_nx S l (s_nx S l (p + 1))) = hz_n 0
        ∧ dd s (40 * i + (s_nx S l (s_nx S l (p + 1)) - 2)) = none ∧ dd s (40 * i + (s_nx S l (s_nx S l (p + 1)) - 1)) = none
        ∧ f = f2 + 1 ∧ bEnv S s i l p (da s (40 * i + p)) ∧ bFrm s f2 6 (40 * l + s_nd S l p) (hz_n (da s (40 * i + p))))
      ∨ (d = 40 * i + s_nx S l (p + 1) ∧ ks s (40 * i + (p + 1)) = hz_n 3 ∧ f = f2)
      ∨ (d = 40 * i + s_nx S l (s_nx S l (p + 1)) ∧ ks s (40 * i + (p + 1)) = hz_n 4 ∧ f = f2 ∧ ∃ i' p' a b, kv s (40 * i + (p + 1)) = hz_n (40 * i' + p' : Nat) ∧ bPar S s i' p' a b
          ∧ dd s (40 * i + (s_nx S l (s_nx S l (p + 1)) - 2)) = some (40 * i' + (p' + 1)) ∧ dd s (40 * i + (s_nx S l (s_nx S l (p + 1)) - 1)) = some (40 * i' + s_nx S (dl s i') (p' + 1)))))
  ∨ (s_op S l p = 10 ∧ d = 40 * i + s_nx S l (p + 2) ∧ dd s (40 * i + (p + 1)) = some (40 * i + (p + 2)) ∧ f = f2)
def bWt (S : zG) (l0 : Nat) (s : zD) (c d f2 f : Nat) : Prop :=
  (c = 2000 ∧ (dk s).2.1 5 l0 = hz_n d ∧ d < 2000 ∧ f = f2) ∨ ∃ i p, c = 40 * i + p ∧ i < de s ∧ s_cl S (dl s i) p = 1 ∧ bW1 S s i (dl s i) p d f2 f
def bFr (S : zG) (l0 f0 : Nat) (s : zD) : List Nat → Nat → Nat → Prop
  | [], _, f => f = f0
  | c :: r, d, f => ∃ f1 f2, bFr S l0 f0 s r c f1 ∧ bKF S s c f1 f2 ∧ bWt S l0 s c d f2 f
def bSk (s : zD) : List Nat → Prop
  | [] => True
  | c :: r => (dk s).2.1 11 r.length = hz_n c ∧ bSk s r
def bStk (S : zG) (s : zD) (sk : List Nat) : Prop :=
  (dk s).1 1 = hz_n sk.length ∧ bSk s sk ∧ sk.Nodup ∧ (∀ c, c ∈ sk → ks s c = hz_n 1 ∧ (c = 2000 ∨ ∃ i p, c = 40 * i + p ∧ i < de s ∧ s_cl S (dl s i) p = 1))
  ∧ (∀ i p, i < de s → s_cl S (dl s i) p = 1 → ks s (40 * i + p) = hz_n 1 → 40 * i + p ∈ sk)
-- facts of the parts of a whole
theorem bKid_lt {ST : Nat → Nat → Int32} {F : Nat} {S : zG} {T : zT} {l p : Nat} (D : bDef ST F S T l) (h : s_cl S l p = 1) : p < 40 := by
  have := D.2.2.2.2.2.2.2.2.2.2.2.2.2 p h
  have := D.2.1
  omega
theorem bShp_of {ST : Nat → Nat → Int32} {F : Nat} {S : zG} {T : zT} {l p : Nat} (D : bDef ST F S T l) (h : s_cl S l p = 1) : bShp ST F S l p :=
  (D.2.2.2.2.2.2.2.2.2.2.2.2.2 p h).2.2.2.2.2.2.2.2.2.2.2
theorem bSh5 {ST : Nat → Nat → Int32} {F : Nat} {S : zG} {l p : Nat} (H : bShp ST F S l p) (h : s_op S l p = 5) : s_sg S l p = 58 ∧ bKid ST F S l p 0 (p + 1) 1 ∧ bKid ST F S l p 1 (s_nx S l (p + 1)) 1
      ∧ s_sc S l (p + 1) = s_sc S l p ∧ s_sc S l (s_nx S l (p + 1)) = s_sc S l p ∧ p + 1 < s_nx S l (p + 1) := by
  unfold bShp at H; simpa [h] using H
theorem bSh6 {ST : Nat → Nat → Int32} {F : Nat} {S : zG} {l p : Nat} (H : bShp ST F S l p) (h : s_op S l p = 6) : s_sg S l p = 40 ∧ bKid ST F S l p 0 (p + 1) 0 ∧ s_sc S l (p + 1) = s_sc S l p ∧ 1 ≤ s_mo S l p ∧ s_mo S l p ≤ 4
      ∧ (∀ j, j < s_mo S l p → bKid ST F S l p (j + 1) (s_arg S l p (j + 1)) 1 ∧ s_arg S l p j < s_arg S l p (j + 1) ∧ s_sc S l (s_arg S l p (j + 1)) = s_sc S l p)
      ∧ s_nx S l (s_arg S l p (s_mo S l p)) = 0 := by
  unfold bShp at H; simpa [h] using H
theorem bSh7 {ST : Nat → Nat → Int32} {F : Nat} {S : zG} {l p : Nat} (H : bShp ST F S l p) (h : s_op S l p = 7) : s_sg S l p = s_vl S l p ∧ (s_vl S l p = 42 ∨ s_vl S l p = 43 ∨ s_vl S l p = 45 ∨ s_vl S l p = 60 ∨ s_vl S l p = 61)
      ∧ bKid ST F S l p 0 (p + 1) 0 ∧ bKid ST F S l p 1 (s_nx S l (p + 1)) 0 ∧ p + 1 < s_nx S l (p + 1)
      ∧ s_sc S l (p + 1) = s_sc S l p ∧ s_sc S l (s_nx S l (p + 1)) = s_sc S l p := by
  unfold bShp at H; simpa [h] using H
theorem bSh8 {ST : Nat → Nat → Int32} {F : Nat} {S : zG} {l p : Nat} (H : bShp ST F S l p) (h : s_op S l p = 8) : s_sg S l p = 63 ∧ bKid ST F S l p 0 (p + 1) 0 ∧ bKid ST F S l p 1 (s_nx S l (p + 1)) 0 ∧ bKid ST F S l p 2 (s_nx S l (s_nx S l (p + 1))) 0
      ∧ p + 1 < s_nx S l (p + 1) ∧ s_nx S l (p + 1) < s_nx S l (s_nx S l (p + 1))
      ∧ s_sc S l (p + 1) = s_sc S l p ∧ s_sc S l (s_nx S l (p + 1)) = s_sc S l p ∧ s_sc S l (s_nx S l (s_nx S l (p + 1))) = s_sc S l p := by
  unfold bShp at H; simpa [h] using H
theorem bSh9 {ST : Nat → Nat → Int32} {F : Nat} {S : zG} {l p : Nat} (H : bShp ST F S l p) (h : s_op S l p = 9) : s_sg S l p = 47 ∧ bKid ST F S l p 0 (p + 1) 0 ∧ bKid ST F S l p 1 (s_nx S l (p + 1)) 0 ∧ bKid ST F S l p 2 (s_nx S l (s_nx S l (p + 1))) 0
      ∧ p + 1 < s_nx S l (p + 1) ∧ s_nx S l (p + 1) + 2 < s_nx S l (s_nx S l (p + 1)) ∧ s_vl S l p < 26 ∧ s_mo S l p < 26
      ∧ s_cl S l (s_nx S l (s_nx S l (p + 1)) - 2) = 2 ∧ s_cl S l (s_nx S l (s_nx S l (p + 1)) - 1) = 2 ∧ s_ow S l (s_nx S l (s_nx S l (p + 1)) - 2) = p ∧ s_ow S l (s_nx S l (s_nx S l (p + 1)) - 1) = p
      ∧ s_sc S l (p + 1) = s_sc S l p ∧ s_sc S l (s_nx S l (p + 1)) = s_sc S l p
      ∧ (∀ v, s_sc S l (s_nx S l (s_nx S l (p + 1))) v = if v = s_mo S l p then some (s_nx S l (s_nx S l (p + 1)) - 1) else if v = s_vl S l p then some (s_nx S l (s_nx S l (p + 1)) - 2) else s_sc S l p v) := by
  unfold bShp at H; simpa [h] using H
theorem bSh10 {ST : Nat → Nat → Int32} {F : Nat} {S : zG} {l p : Nat} (H : bShp ST F S l p) (h : s_op S l p = 10) : s_sg S l p = 36 ∧ bKid ST F S l p 0 (p + 2) 2 ∧ bKid ST F S l p 1 (s_nx S l (p + 2)) 0 ∧ p + 2 < s_nx S l (p + 2) ∧ s_vl S l p < 26
      ∧ s_cl S l (p + 1) = 2 ∧ s_ow S l (p + 1) = p
      ∧ (∀ v, s_sc S l (p + 2) v = if v = s_vl S l p then some (p + 1) else s_sc S l p v)
      ∧ (∀ v, s_sc S l (s_nx S l (p + 2)) v = if v = s_vl S l p then some (p + 1) else s_sc S l p v) := by
  unfold bShp at H; simpa [h] using H
theorem bSh1 {ST : Nat → Nat → Int32} {F : Nat} {S : zG} {l p : Nat} (H : bShp ST F S l p) (h : s_op S l p = 1) : s_sg S l p = 97 + s_vl S l p ∧ s_vl S l p < 26 ∧ s_sc S l p (s_vl S l p) = some (s_bi S l p) ∧ s_bi S l p < 40 := by
  unfold bShp at H; simpa [h] using H
theorem bSh2 {ST : Nat → Nat → Int32} {F : Nat} {S : zG} {l p : Nat} (H : bShp ST F S l p) (h : s_op S l p = 2) : s_sg S l p = 48 + s_vl S l p ∧ s_vl S l p < 10 := by
  unfold bShp at H; simpa [h] using H
theorem bSh3 {ST : Nat → Nat → Int32} {F : Nat} {S : zG} {l p : Nat} (H : bShp ST F S l p) (h : s_op S l p = 3) : s_sg S l p = 65 + s_vl S l p ∧ s_vl S l p < 26 := by
  unfold bShp at H; simpa [h] using H
theorem bSh4 {ST : Nat → Nat → Int32} {F : Nat} {S : zG} {l p : Nat} (H : bShp ST F S l p) (h : s_op S l p = 4) : s_sg S l p = 126 := by
  unfold bShp at H; simpa [h] using H
theorem bShop {ST : Nat → Nat → Int32} {F : Nat} {S : zG} {l p : Nat} (H : bShp ST F S l p) : 1 ≤ s_op S l p ∧ s_op S l p ≤ 10 := by
  unfold bShp at H; omega

theorem zn_ne {d : Nat} (h : d < 2000) : hz_n d ≠ hz_n (-1) := fun e => by
  have := zn_inj (by omega) (by omega) e; omega
def bOut (S : zG) (s : zD) (Z Y B Q : Nat → Prop) (i p d : Nat) : Prop :=
  ¬ Z (40 * i + p) ∧ ¬ Q (40 * i + p) ∧ ¬ Y (40 * i + p) ∧ (∀ q, s_cl S (dl s i) q = 1 → s_pa S (dl s i) q = p → (s_ro S (dl s i) q = 0 → 40 * i + q ≠ d → ¬ Z (40 * i + q)) ∧ ¬ Y (40 * i + q)) ∧ (∀ b, s_cl S (dl s i) b = 2 → s_ow S (dl s i) b = p → ¬ B (40 * i + b))
theorem bW1_up {ST : Nat → Nat → Int32} {F : Nat} {T : zT} {S : zG} {dfs : Nat → Option Nat} {s s' : zD} {Z Y B Q : Nat → Prop} (hb : dnb s ≤ 950) (u : bUp S dfs s s' Z Y B Q) {i p d f2 f : Nat} (D : bDef ST F S T (dl s i)) (hc : s_cl S (dl s i) p = 1)
    (o : bOut S s Z Y B Q i p d) (hk : ∀ l, (dk s).2.1 5 l ≠ hz_n (-1) → (dk s').2.1 5 l = (dk s).2.1 5 l)
    (hf : ∀ j, j < f → (dm s').2 37 j = (dm s).2 37 j ∧ (dm s').2 38 j = (dm s).2 38 j)
    (H : bW1 S s i (dl s i) p d f2 f) : bW1 S s' i (dl s i) p d f2 f := by
  obtain ⟨g, u2, u3, u4, u5, u6, u7, u8⟩ := id u
  obtain ⟨oz, oq, oy, ok, ob⟩ := o
  have sh := bShp_of D hc
  have ha : da s' (40 * i + p) = da s (40 * i + p) := (u3 _ oy).2.1 oz
  have hst : ∀ q, s_cl S (dl s i) q = 1 → s_pa S (dl s i) q = p → s_ro S (dl s i) q = 0 → 40 * i + q ≠ d → ks s' (40 * i + q) = ks s (40 * i + q) ∧ kv s' (40 * i + q) = kv s (40 * i + q) := by
    intro q q1 q2 q3 q4
    have h := u2 _ ((ok q q1 q2).1 q3 q4)
    have := bKid_lt D q1
    have e1 : (40 * i + q) / 40 = i := by omega
    have e2 : (40 * i + q) % 40 = q := by omega
    rw [e1, e2] at h
    exact ⟨h.1, h.2.1 q1⟩
  have henv : bEnv S s i (dl s i) p (da s (40 * i + p)) → bEnv S s' i (dl s i) p (da s (40 * i + p)) := bEnv_mono hb g
  rcases H with ⟨h1, h2, h0, h3⟩ | ⟨h1, h2, h3, h4⟩ | ⟨h1, h2, h3, n, h4, h5, h6, h7⟩ | ⟨h1, h2⟩ | ⟨h1, h2⟩ | ⟨h1, h2⟩ | ⟨h1, h2, h3, h4⟩
  · refine Or.inl ⟨h1, g.1.2.1 _ _ h2, ?_, h3⟩
    cases hx : dg s d with
    | none => exact absurd hx h0
    | some m => rw [g.1.1 _ _ hx]; simp
  · refine Or.inr (Or.inl ⟨h1, ?_, h3, h4⟩)
    rw [hk _ (by rw [h2]; exact zn_ne h3)]; exact h2
  · refine Or.inr (Or.inr (Or.inl ⟨h1, ?_, h3, n, h4, ?_, ?_, ?_⟩))
    · rw [((u2 _ oz).2.2 oq).1]; exact h2
    · rw [((u2 _ oz).2.2 oq).2]; exact h5
    · intro j j1 j2
      have k := (bSh6 sh h1).2.2.2.2.2.1 (j - 1) (by omega)
      have e : j - 1 + 1 = j := by omega
      rw [e] at k
      rw [(u3 _ (ok _ k.1.1 k.1.2.1).2).1]; exact h6 j j1 j2
    · rw [ha]
      unfold bFrm
      have hroot : bRoot S s d → bRoot S s' d := by
        rintro ⟨j, j1, j2⟩
        exact ⟨j, Nat.lt_of_lt_of_le j1 g.2.2.2.1.1, by rw [g.2.2.2.1.2 j j1]; exact j2⟩
      rcases h7 with ⟨a1, a2, a3, a4, a5⟩ | ⟨a1, a2, a0, a3, a4, a5⟩ | ⟨a1, a2, a0, a3⟩
      · refine Or.inl ⟨a1, a2, a3, henv a4, ?_⟩
        rw [(hf f2 (by omega)).1, (hf f2 (by omega)).2]; exact a5
      · refine Or.inr (Or.inl ⟨a1, a2, hroot a0, a3, henv a4, ?_⟩)
        rw [(hf f2 (by omega)).1, (hf f2 (by omega)).2]; exact a5
      · exact Or.inr (Or.inr ⟨a1, a2, hroot a0, a3⟩)
  · obtain ⟨_, _, k0, k1, kl, _⟩ := bSh7 sh h1
    refine Or.inr (Or.inr (Or.inr (Or.inl ⟨h1, ?_⟩)))
    rw [ha]
    unfold bFrm
    rcases h2 with ⟨a1, a2, a3, a4, a5⟩ | ⟨a1, a2, a3, a5⟩
    · refine Or.inl ⟨a1, ?_, a3, henv a4, ?_⟩
      · rw [(hst _ k1.1 k1.2.1 k1.2.2.1 (by omega)).1]; exact a2
      · rw [(hf f2 (by omega)).1, (hf f2 (by omega)).2]; exact a5
    · refine Or.inr ⟨a1, ?_, a3, ?_⟩
      · rw [(hst _ k0.1 k0.2.1 k0.2.2.1 (by omega)).1]; exact a2
      · rw [(hst _ k0.1 k0.2.1 k0.2.2.1 (by omega)).2, (hf f2 (by omega)).1, (hf f2 (by omega)).2]; exact a5
  · obtain ⟨_, k0, k1, k2, kl1, kl2, _⟩ := bSh8 sh h1
    refine Or.inr (Or.inr (Or.inr (Or.inr (Or.inl ⟨h1, ?_⟩))))
    rw [ha]
    unfold bFrm
    rcases h2 with ⟨a1, a2, a3, a4, a5, a6⟩ | a
    · refine Or.inl ⟨a1, ?_, ?_, a4, henv a5, ?_⟩
      · rw [(hst _ k1.1 k1.2.1 k1.2.2.1 (by omega)).1]; exact a2
      · rw [(hst _ k2.1 k2.2.1 k2.2.2.1 (by omega)).1]; exact a3
      · rw [(hf f2 (by omega)).1, (hf f2 (by omega)).2]; exact a6
    · have hd : 40 * i + (p + 1) ≠ d := by rcases a.2.2 with e | e <;> omega
      refine Or.inr ?_
      rw [(hst _ k0.1 k0.2.1 k0.2.2.1 hd).1, (hst _ k0.1 k0.2.1 k0.2.2.1 hd).2]; exact a
  · obtain ⟨_, k0, k1, k2, kl1, kl2, _, _, c1, c2, w1, w2, _⟩ := bSh9 sh h1
    refine Or.inr (Or.inr (Or.inr (Or.inr (Or.inr (Or.inl ⟨h1, ?_⟩)))))
    rw [ha, u4 _ (ob _ c1 w1), u4 _ (ob _ c2 w2)]
    unfold bFrm
    rcases h2 with ⟨a1, a2, a3, a4, a5, a6, a7, a8⟩ | ⟨a1, a2, a3⟩ | ⟨a1, a2, a3, i', p', a, b, b1, b2, b3, b4⟩
    · refine Or.inl ⟨a1, ?_, ?_, a4, a5, a6, henv a7, ?_⟩
      · rw [(hst _ k1.1 k1.2.1 k1.2.2.1 (by omega)).1]; exact a2
      · rw [(hst _ k2.1 k2.2.1 k2.2.2.1 (by omega)).1]; exact a3
      · rw [(hf f2 (by omega)).1, (hf f2 (by omega)).2]; exact a8
    · refine Or.inr (Or.inl ⟨a1, ?_, a3⟩)
      rw [(hst _ k0.1 k0.2.1 k0.2.2.1 (by omega)).1]; exact a2
    · refine Or.inr (Or.inr ⟨a1, ?_, a3, i', p', a, b, ?_, bPar_mono g b2, b3, ?_⟩)
      · rw [(hst _ k0.1 k0.2.1 k0.2.2.1 (by omega)).1]; exact a2
      · rw [(hst _ k0.1 k0.2.1 k0.2.2.1 (by omega)).2]; exact b1
      · rw [g.2.2.2.1.2 i' b2.1]; exact b4
  · exact Or.inr (Or.inr (Or.inr (Or.inr (Or.inr (Or.inr ⟨h1, h2, g.1.2.1 _ _ h3, h4⟩)))))
def bDefs (ST : Nat → Nat → Int32) (F : Nat) (S : zG) (s : zD) : Prop := ∀ i, i < de s → ∃ T, bDef ST F S T (dl s i)
theorem bKF_up {S : zG} {dfs : Nat → Option Nat} {s s' : zD} {Z Y B Q : Nat → Prop} (u : bUp S dfs s s' Z Y B Q) {c f1 f2 : Nat} (hy : ¬ Y c)
    (hf : ∀ j, j < f2 → (dm s').2 37 j = (dm s).2 37 j) (H : bKF S s c f1 f2) : bKF S s' c f1 f2 := by
  obtain ⟨g, u2, u3, u4, u5, u6, u7, u8⟩ := id u
  rcases H with ⟨i, p, q, h1, h2, h3, h4, h5, h6, h7⟩ | h | ⟨h1, i, p, h2, h3, h4, h5⟩
  · have e := g.2.2.2.1.2 i h2
    refine Or.inl ⟨i, p, q, h1, Nat.lt_of_lt_of_le h2 g.2.2.2.1.1, by rw [e]; exact h3, by rw [e]; exact h4, by rw [(u3 c hy).1]; exact h5, ?_, h7⟩
    rw [hf _ (by omega)]; exact h6
  · exact Or.inr (Or.inl h)
  · have e := g.2.2.2.1.2 i h3
    refine Or.inr (Or.inr ⟨h1, i, p, h2, Nat.lt_of_lt_of_le h3 g.2.2.2.1.1, by rw [e]; exact h4, ?_⟩)
    rw [e, (u3 c hy).1]; exact h5
theorem bKF_le {S : zG} {s : zD} {c f1 f2 : Nat} (H : bKF S s c f1 f2) : f1 ≤ f2 := by
  rcases H with ⟨i, p, q, h1, h2, h3, h4, h5, h6, h7⟩ | h | ⟨h1, _⟩ <;> omega
theorem bWt_le {S : zG} {l0 : Nat} {s : zD} {c d f1 f2 : Nat} (H : bWt S l0 s c d f1 f2) : f1 ≤ f2 := by
  rcases H with ⟨h1, h2, h3, h4⟩ | ⟨i, p, h1, h2, h3, H⟩
  · omega
  · unfold bW1 at H
    rcases H with h | h | ⟨_, _, _, u, _, _, _, h⟩ | ⟨_, h⟩ | ⟨_, h⟩ | ⟨_, h⟩ | h
    · omega
    · omega
    · rcases h with h | h | h <;> omega
    · rcases h with h | h <;> omega
    · rcases h with h | h <;> omega
    · rcases h with h | h | h <;> omega
    · omega
theorem bFr_up {ST : Nat → Nat → Int32} {F : Nat} {S : zG} {dfs : Nat → Option Nat} {l0 f0 : Nat} {s s' : zD} {Z Y B Q : Nat → Prop} (he : de s ≤ 50) (hb : dnb s ≤ 950) (u : bUp S dfs s s' Z Y B Q) (D : bDefs ST F S s)
    (hk : ∀ l, (dk s).2.1 5 l ≠ hz_n (-1) → (dk s').2.1 5 l = (dk s).2.1 5 l) :
    ∀ {r : List Nat} {d f : Nat}, (∀ c d, c ∈ r → c = 2000 ∨ ∀ i p, c = 40 * i + p → i < de s → s_cl S (dl s i) p = 1 → bOut S s Z Y B Q i p d) → (∀ c, c ∈ r → ¬ Y c) →
      (∀ j, j < f → (dm s').2 37 j = (dm s).2 37 j ∧ (dm s').2 38 j = (dm s).2 38 j) → bFr S l0 f0 s r d f → bFr S l0 f0 s' r d f
  | [], _, _, _, _, _, H => H
  | c :: r, d, f, ho, hy, hf, H => by
    obtain ⟨f1, f2, h1, h2, h3⟩ := H
    have l1 := bKF_le h2
    have l2 := bWt_le h3
    refine ⟨f1, f2, bFr_up he hb u D hk (fun x e hx => ho x e (List.mem_cons_of_mem _ hx)) (fun x hx => hy x (List.mem_cons_of_mem _ hx)) (fun j hj => hf j (by omega)) h1, bKF_up u (hy c (List.mem_cons_self ..)) (fun j hj => (hf j (by omega)).1) h2, ?_⟩
    rcases h3 with ⟨a1, a2, a3, a4⟩ | ⟨i, p, a1, a2, a3, a4⟩
    · refine Or.inl ⟨a1, ?_, a3, a4⟩
      rw [hk _ (by rw [a2]; exact zn_ne a3)]; exact a2
    · obtain ⟨T, DT⟩ := D i a2
      have e := u.1.2.2.2.1.2 i a2
      refine Or.inr ⟨i, p, a1, Nat.lt_of_lt_of_le a2 u.1.2.2.2.1.1, by rw [e]; exact a3, ?_⟩
      rw [e]
      rcases ho c d (List.mem_cons_self ..) with hr | hr
      · have := bKid_lt DT a3
        omega
      · exact bW1_up hb u DT a3 (hr i p a1 a2 a3) hk hf a4

theorem bWt_up {ST : Nat → Nat → Int32} {F : Nat} {S : zG} {dfs : Nat → Option Nat} {l0 : Nat} {s s' : zD} {Z Y B Q : Nat → Prop} (he : de s ≤ 50) (hb : dnb s ≤ 950) (u : bUp S dfs s s' Z Y B Q) (D : bDefs ST F S s)
    (hk : ∀ l, (dk s).2.1 5 l ≠ hz_n (-1) → (dk s').2.1 5 l = (dk s).2.1 5 l) {c d f2 f : Nat} (ho : c = 2000 ∨ ∀ i p, c = 40 * i + p → i < de s → s_cl S (dl s i) p = 1 → bOut S s Z Y B Q i p d)
    (hf : ∀ j, j < f → (dm s').2 37 j = (dm s).2 37 j ∧ (dm s').2 38 j = (dm s).2 38 j) (H : bWt S l0 s c d f2 f) : bWt S l0 s' c d f2 f := by
  rcases H with ⟨a1, a2, a3, a4⟩ | ⟨i, p, a1, a2, a3, a4⟩
  · refine Or.inl ⟨a1, ?_, a3, a4⟩
    rw [hk _ (by rw [a2]; exact zn_ne a3)]; exact a2
  · obtain ⟨T, DT⟩ := D i a2
    have e := u.1.2.2.2.1.2 i a2
    refine Or.inr ⟨i, p, a1, Nat.lt_of_lt_of_le a2 u.1.2.2.2.1.1, by rw [e]; exact a3, ?_⟩
    rw [e]
    rcases ho with hr | hr
    · have := bKid_lt DT a3
      omega
    · exact bW1_up hb u DT a3 (hr i p a1 a2 a3) hk hf a4
