/-! What is written into a world of numbers, and read again. -/
theorem hz_set_at {h : hz_H} {i : Nat} {x : hz_E} : hz_set h i x i = some x := if_pos rfl
theorem hz_set_ne {h : hz_H} {i j : Nat} {x : hz_E} (e : j ≠ i) : hz_set h i x j = h j := if_neg e
theorem hz_set_set {h : hz_H} {i : Nat} {x y : hz_E} : hz_set (hz_set h i x) i y = hz_set h i y := by
  funext j
  unfold hz_set
  by_cases e : j = i
  · rw [if_pos e, if_pos e]
  · rw [if_neg e, if_neg e, if_neg e]
theorem hz_set_comm {h : hz_H} {i k : Nat} {x y : hz_E} (e : i ≠ k) : hz_set (hz_set h i x) k y = hz_set (hz_set h k y) i x := by
  funext j
  unfold hz_set
  by_cases e1 : j = k
  · rw [if_pos e1, if_neg (by omega), if_pos e1]
  · rw [if_neg e1]
    by_cases e2 : j = i
    · rw [if_pos e2, if_pos e2]
    · rw [if_neg e2, if_neg e2, if_neg e1]
section
variable {l : Launch} {G : hz_G} {κ : zK} {μ : zM} {ω : Nat → Int64} {D : hz_H} {b : Nat}
/-- scope is filled -/
def r_sc : Nat → (Nat → Int32) → Int32 → Option (Nat → Int32)
  | 0, _, _ => none
  | f + 1, a, k => if 26 ≤ k.toInt then some a else if 0 ≤ k.toInt ∧ k.toInt < 26 then r_sc f (upd a k.toInt.toNat (hz_n (-1))) (k + hz_n 1) else none
end
