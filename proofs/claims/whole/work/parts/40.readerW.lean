/-! The world while a text is read: a definition and its reader lie from b on. Printed by wip/g40.py. -/
def zQ (D : hz_H) (b N : Nat) (ρ : zM) : hz_H := fun i => if i < b then D i else match i - b with
  | 0 => some (.inr (0, [.ref (b + 1), .ref (b + 2), .ref (b + 3), .int (ρ.1 0)]))
  | 1 => some (.inl (0, N, hz_i (ρ.2 0)))
  | 2 => some (.inl (1, N, hz_i (ρ.2 1)))
  | 3 => some (.inl (1, N, hz_i (ρ.2 2)))
  | 4 => some (.inr (2, [.ref b, .ref (b + 5), .int (ρ.1 1), .int (ρ.1 2), .int (ρ.1 3)]))
  | 5 => some (.inl (1, 26, hz_i (ρ.2 3)))
  | _ => none
theorem zQ_at {D : hz_H} {b N : Nat} {ρ : zM} (k : Nat) : zQ D b N ρ (b + k) = (match k with
  | 0 => some (.inr (0, [.ref (b + 1), .ref (b + 2), .ref (b + 3), .int (ρ.1 0)]))
  | 1 => some (.inl (0, N, hz_i (ρ.2 0)))
  | 2 => some (.inl (1, N, hz_i (ρ.2 1)))
  | 3 => some (.inl (1, N, hz_i (ρ.2 2)))
  | 4 => some (.inr (2, [.ref b, .ref (b + 5), .int (ρ.1 1), .int (ρ.1 2), .int (ρ.1 3)]))
  | 5 => some (.inl (1, 26, hz_i (ρ.2 3)))
  | _ => none) := by
  unfold zQ
  rw [if_neg (by omega), Nat.add_sub_cancel_left]
theorem zQ_set {D : hz_H} {b N : Nat} {ρ ρ' : zM} {x : hz_E} (k : Nat) (h1 : zQ D b N ρ' (b + k) = some x) (h2 : ∀ j, j ≠ k → zQ D b N ρ (b + j) = zQ D b N ρ' (b + j)) : hz_set (zQ D b N ρ) (b + k) x = zQ D b N ρ' := by
  funext i
  unfold hz_set
  by_cases e : i = b + k
  · rw [if_pos e, e, h1]
  · rw [if_neg e]
    by_cases hb : i < b
    · unfold zQ
      rw [if_pos hb, if_pos hb]
    · obtain ⟨j, rfl⟩ : ∃ j, i = b + j := ⟨i - b, by omega⟩
      exact h2 j (by omega)
section
variable {κ : zK} {μ : zM} {ω : Nat → Int64} {D : hz_H} {b N : Nat} {ρ : zM}
theorem zq_0 (hb : 40 ≤ b) : zH κ μ ω (zQ D b N ρ) b = some (.inr (0, [.ref (b + 1), .ref (b + 2), .ref (b + 3), .int (ρ.1 0)])) := (zH_D hb).trans (zQ_at 0)
theorem zq_4 (hb : 40 ≤ b) : zH κ μ ω (zQ D b N ρ) (b + 4) = some (.inr (2, [.ref b, .ref (b + 5), .int (ρ.1 1), .int (ρ.1 2), .int (ρ.1 3)])) := (zH_D (by omega)).trans (zQ_at 4)
theorem rdR_0_0 (hb : 40 ≤ b) {K : Value → Prop} : hz_rd (zH κ μ ω (zQ D b N ρ)) b 0 0 K = K (.ref (b + 1)) := zrd_at (by omega) (zQ_at 0) rfl
theorem rdR_0_1 (hb : 40 ≤ b) {K : Value → Prop} : hz_rd (zH κ μ ω (zQ D b N ρ)) b 0 1 K = K (.ref (b + 2)) := zrd_at (by omega) (zQ_at 0) rfl
theorem rdR_0_2 (hb : 40 ≤ b) {K : Value → Prop} : hz_rd (zH κ μ ω (zQ D b N ρ)) b 0 2 K = K (.ref (b + 3)) := zrd_at (by omega) (zQ_at 0) rfl
theorem rdR_0_3 (hb : 40 ≤ b) {K : Value → Prop} : hz_rd (zH κ μ ω (zQ D b N ρ)) b 0 3 K = K (.int (ρ.1 0)) := zrd_at (by omega) (zQ_at 0) rfl
theorem rdR_4_0 (hb : 40 ≤ b) {K : Value → Prop} : hz_rd (zH κ μ ω (zQ D b N ρ)) (b + 4) 2 0 K = K (.ref b) := zrd_at (by omega) (zQ_at 4) rfl
theorem rdR_4_1 (hb : 40 ≤ b) {K : Value → Prop} : hz_rd (zH κ μ ω (zQ D b N ρ)) (b + 4) 2 1 K = K (.ref (b + 5)) := zrd_at (by omega) (zQ_at 4) rfl
theorem rdR_4_2 (hb : 40 ≤ b) {K : Value → Prop} : hz_rd (zH κ μ ω (zQ D b N ρ)) (b + 4) 2 2 K = K (.int (ρ.1 1)) := zrd_at (by omega) (zQ_at 4) rfl
theorem rdR_4_3 (hb : 40 ≤ b) {K : Value → Prop} : hz_rd (zH κ μ ω (zQ D b N ρ)) (b + 4) 2 3 K = K (.int (ρ.1 2)) := zrd_at (by omega) (zQ_at 4) rfl
theorem rdR_4_4 (hb : 40 ≤ b) {K : Value → Prop} : hz_rd (zH κ μ ω (zQ D b N ρ)) (b + 4) 2 4 K = K (.int (ρ.1 3)) := zrd_at (by omega) (zQ_at 4) rfl
theorem eaR_1 (hb : 40 ≤ b) {x : Int32} {K : Value → Prop} : hz_ea zKT hz_kC (zH κ μ ω (zQ D b N ρ)) (b + 1) x K = ((0 ≤ x.toInt ∧ x.toInt.toNat < N) ∧ K (.int (ρ.2 0 x.toInt.toNat))) := zea_at (by omega) (zQ_at 1) rfl rfl
theorem eaR_2 (hb : 40 ≤ b) {x : Int32} {K : Value → Prop} : hz_ea zKT hz_kI (zH κ μ ω (zQ D b N ρ)) (b + 2) x K = ((0 ≤ x.toInt ∧ x.toInt.toNat < N) ∧ K (.int (ρ.2 1 x.toInt.toNat))) := zea_at (by omega) (zQ_at 2) rfl rfl
theorem eaR_3 (hb : 40 ≤ b) {x : Int32} {K : Value → Prop} : hz_ea zKT hz_kI (zH κ μ ω (zQ D b N ρ)) (b + 3) x K = ((0 ≤ x.toInt ∧ x.toInt.toNat < N) ∧ K (.int (ρ.2 2 x.toInt.toNat))) := zea_at (by omega) (zQ_at 3) rfl rfl
theorem eaR_5 (hb : 40 ≤ b) {x : Int32} {K : Value → Prop} : hz_ea zKT hz_kI (zH κ μ ω (zQ D b N ρ)) (b + 5) x K = ((0 ≤ x.toInt ∧ x.toInt.toNat < 26) ∧ K (.int (ρ.2 3 x.toInt.toNat))) := zea_at (by omega) (zQ_at 5) rfl rfl
theorem alR (hb : 40 ≤ b) {K : Value → Prop} : hz_al zKT (zH κ μ ω (zQ D b N ρ)) (b + 1) K = K (.int (hz_n N)) := zal_at (by omega) (zQ_at 1) rfl
theorem zwr_at {d ci k : Nat} {fs : List Value} {v : Value} (h1 : 40 ≤ d) (h2 : D d = some (.inr (ci, fs))) (h3 : k < fs.length) {K : hz_H → Prop} : hz_wr (zH κ μ ω D) d ci k v K = K (zH κ μ ω (hz_set D d (.inr (ci, fs.set k v)))) := by
  unfold hz_wr
  rw [zH_D h1, h2]
  show hz_t (Nat.beq ci ci && Nat.blt k fs.length) _ = _
  rw [Nat.beq_refl, show Nat.blt k fs.length = true from Nat.ble_eq.mpr h3, zH_set h1]
  rfl
theorem zes_at {d t len : Nat} {f : Nat → Int32} {ty : FieldType} {ok : FieldType → Bool} (h1 : 40 ≤ d) (h2 : D d = some (.inl (t, len, hz_i f))) (h3 : zKT[t]? = some ty) (h4 : ok ty = true) {x y : Int32} {K : hz_H → Prop} : hz_es zKT ok (zH κ μ ω D) d x (.int y) K = ((0 ≤ x.toInt ∧ x.toInt.toNat < len) ∧ K (zH κ μ ω (hz_set D d (.inl (t, len, hz_i (upd f x.toInt.toNat y)))))) := by
  unfold hz_es
  rw [zH_D h1, h2]
  show (match zKT[t]? with | some ty => hz_t (ok ty) _ | none => False) = _
  rw [h3]
  show hz_t (ok ty) _ = _
  rw [h4, hz_upI, zH_set h1]
  rfl
theorem wrR_0_3 (hb : 40 ≤ b) {x : Int32} {K : hz_H → Prop} : hz_wr (zH κ μ ω (zQ D b N ρ)) b 0 3 (.int x) K = K (zH κ μ ω (zQ D b N (mS ρ 0 x))) := by
  refine (zwr_at (by omega) (zQ_at 0) (by simp)).trans (congrArg (fun q => K (zH κ μ ω q)) (zQ_set 0 ((zQ_at 0).trans rfl) fun i hi => ?_))
  rw [zQ_at, zQ_at]
  match i with
  | 0 => first | rfl | exact absurd rfl hi
  | 1 => first | rfl | exact absurd rfl hi
  | 2 => first | rfl | exact absurd rfl hi
  | 3 => first | rfl | exact absurd rfl hi
  | 4 => first | rfl | exact absurd rfl hi
  | 5 => first | rfl | exact absurd rfl hi
  | _ + 6 => rfl
theorem wrR_4_2 (hb : 40 ≤ b) {x : Int32} {K : hz_H → Prop} : hz_wr (zH κ μ ω (zQ D b N ρ)) (b + 4) 2 2 (.int x) K = K (zH κ μ ω (zQ D b N (mS ρ 1 x))) := by
  refine (zwr_at (by omega) (zQ_at 4) (by simp)).trans (congrArg (fun q => K (zH κ μ ω q)) (zQ_set 4 ((zQ_at 4).trans rfl) fun i hi => ?_))
  rw [zQ_at, zQ_at]
  match i with
  | 0 => first | rfl | exact absurd rfl hi
  | 1 => first | rfl | exact absurd rfl hi
  | 2 => first | rfl | exact absurd rfl hi
  | 3 => first | rfl | exact absurd rfl hi
  | 4 => first | rfl | exact absurd rfl hi
  | 5 => first | rfl | exact absurd rfl hi
  | _ + 6 => rfl
theorem wrR_4_3 (hb : 40 ≤ b) {x : Int32} {K : hz_H → Prop} : hz_wr (zH κ μ ω (zQ D b N ρ)) (b + 4) 2 3 (.int x) K = K (zH κ μ ω (zQ D b N (mS ρ 2 x))) := by
  refine (zwr_at (by omega) (zQ_at 4) (by simp)).trans (congrArg (fun q => K (zH κ μ ω q)) (zQ_set 4 ((zQ_at 4).trans rfl) fun i hi => ?_))
  rw [zQ_at, zQ_at]
  match i with
  | 0 => first | rfl | exact absurd rfl hi
  | 1 => first | rfl | exact absurd rfl hi
  | 2 => first | rfl | exact absurd rfl hi
  | 3 => first | rfl | exact absurd rfl hi
  | 4 => first | rfl | exact absurd rfl hi
  | 5 => first | rfl | exact absurd rfl hi
  | _ + 6 => rfl
theorem wrR_4_4 (hb : 40 ≤ b) {x : Int32} {K : hz_H → Prop} : hz_wr (zH κ μ ω (zQ D b N ρ)) (b + 4) 2 4 (.int x) K = K (zH κ μ ω (zQ D b N (mS ρ 3 x))) := by
  refine (zwr_at (by omega) (zQ_at 4) (by simp)).trans (congrArg (fun q => K (zH κ μ ω q)) (zQ_set 4 ((zQ_at 4).trans rfl) fun i hi => ?_))
  rw [zQ_at, zQ_at]
  match i with
  | 0 => first | rfl | exact absurd rfl hi
  | 1 => first | rfl | exact absurd rfl hi
  | 2 => first | rfl | exact absurd rfl hi
  | 3 => first | rfl | exact absurd rfl hi
  | 4 => first | rfl | exact absurd rfl hi
  | 5 => first | rfl | exact absurd rfl hi
  | _ + 6 => rfl
theorem esR_2 (hb : 40 ≤ b) {x y : Int32} {K : hz_H → Prop} : hz_es zKT hz_kI (zH κ μ ω (zQ D b N ρ)) (b + 2) x (.int y) K = ((0 ≤ x.toInt ∧ x.toInt.toNat < N) ∧ K (zH κ μ ω (zQ D b N (mA ρ 1 x.toInt.toNat y)))) := by
  refine (zes_at (by omega) (zQ_at 2) rfl rfl).trans (congrArg (fun q => _ ∧ K (zH κ μ ω q)) (zQ_set 2 ((zQ_at 2).trans rfl) fun i hi => ?_))
  rw [zQ_at, zQ_at]
  match i with
  | 0 => first | rfl | exact absurd rfl hi
  | 1 => first | rfl | exact absurd rfl hi
  | 2 => first | rfl | exact absurd rfl hi
  | 3 => first | rfl | exact absurd rfl hi
  | 4 => first | rfl | exact absurd rfl hi
  | 5 => first | rfl | exact absurd rfl hi
  | _ + 6 => rfl
theorem esR_3 (hb : 40 ≤ b) {x y : Int32} {K : hz_H → Prop} : hz_es zKT hz_kI (zH κ μ ω (zQ D b N ρ)) (b + 3) x (.int y) K = ((0 ≤ x.toInt ∧ x.toInt.toNat < N) ∧ K (zH κ μ ω (zQ D b N (mA ρ 2 x.toInt.toNat y)))) := by
  refine (zes_at (by omega) (zQ_at 3) rfl rfl).trans (congrArg (fun q => _ ∧ K (zH κ μ ω q)) (zQ_set 3 ((zQ_at 3).trans rfl) fun i hi => ?_))
  rw [zQ_at, zQ_at]
  match i with
  | 0 => first | rfl | exact absurd rfl hi
  | 1 => first | rfl | exact absurd rfl hi
  | 2 => first | rfl | exact absurd rfl hi
  | 3 => first | rfl | exact absurd rfl hi
  | 4 => first | rfl | exact absurd rfl hi
  | 5 => first | rfl | exact absurd rfl hi
  | _ + 6 => rfl
theorem esR_5 (hb : 40 ≤ b) {x y : Int32} {K : hz_H → Prop} : hz_es zKT hz_kI (zH κ μ ω (zQ D b N ρ)) (b + 5) x (.int y) K = ((0 ≤ x.toInt ∧ x.toInt.toNat < 26) ∧ K (zH κ μ ω (zQ D b N (mA ρ 3 x.toInt.toNat y)))) := by
  refine (zes_at (by omega) (zQ_at 5) rfl rfl).trans (congrArg (fun q => _ ∧ K (zH κ μ ω q)) (zQ_set 5 ((zQ_at 5).trans rfl) fun i hi => ?_))
  rw [zQ_at, zQ_at]
  match i with
  | 0 => first | rfl | exact absurd rfl hi
  | 1 => first | rfl | exact absurd rfl hi
  | 2 => first | rfl | exact absurd rfl hi
  | 3 => first | rfl | exact absurd rfl hi
  | 4 => first | rfl | exact absurd rfl hi
  | 5 => first | rfl | exact absurd rfl hi
  | _ + 6 => rfl
end
