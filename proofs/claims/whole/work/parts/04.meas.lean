/-! measures: cut at 1000 -/
theorem mn_mul {a b : Nat} (ha : 1 ≤ a) (hb : 1 ≤ b) : min (min a 1000 * min b 1000) 1000 = min (a * b) 1000 := by
  rcases Nat.lt_or_ge a 1000 with h1 | h1
  · rcases Nat.lt_or_ge b 1000 with h2 | h2
    · rw [Nat.min_eq_left (Nat.le_of_lt h1), Nat.min_eq_left (Nat.le_of_lt h2)]
    · rw [Nat.min_eq_right h2, Nat.min_eq_left (Nat.le_of_lt h1)]
      have e1 : 1 * 1000 ≤ a * 1000 := Nat.mul_le_mul_right _ ha
      have e2 : 1 * 1000 ≤ a * b := Nat.mul_le_mul ha h2
      rw [Nat.min_eq_right (by omega), Nat.min_eq_right (by omega)]
  · rw [Nat.min_eq_right h1]
    have e0 : 1 ≤ min b 1000 := by omega
    have e1 : 1000 * 1 ≤ 1000 * min b 1000 := Nat.mul_le_mul_left _ e0
    have e2 : 1000 * 1 ≤ a * b := Nat.mul_le_mul h1 hb
    rw [Nat.min_eq_right (by omega), Nat.min_eq_right (by omega)]
theorem mn_pow {x k : Nat} (hx : 1 ≤ x) : min (min (x ^ k) 1000 * min x 1000) 1000 = min (x ^ (k + 1)) 1000 := by
  rw [Nat.pow_succ]
  exact mn_mul (Nat.one_le_pow _ _ (by omega)) hx
theorem mn_len {h l : Nat} (hh : h ≤ 4) : min (h * (1 + min l 1000)) 1000 = min (h * (1 + l)) 1000 := by
  have : h = 0 ∨ h = 1 ∨ h = 2 ∨ h = 3 ∨ h = 4 := by omega
  rcases this with e | e | e | e | e <;> subst e <;> omega
theorem mn_cho {h l o : Nat} (hh : h ≤ 4) : min (o + h * min l 1000) 1000 = min (o + h * l) 1000 := by
  have : h = 0 ∨ h = 1 ∨ h = 2 ∨ h = 3 ∨ h = 4 := by omega
  rcases this with e | e | e | e | e <;> subst e <;> omega
/-- X's total of the cut powers -/
def mn_tt (x lo : Nat) : Nat → Nat
  | 0 => 0
  | k + 1 => mn_tt x lo k + (if lo ≤ k then min (x ^ k) 1000 else 0)
theorem mn_tt_le (x lo : Nat) : ∀ k, mn_tt x lo k ≤ 1000 * k := by
  intro k
  induction k with
  | zero => exact Nat.le_refl _
  | succ k ih =>
    show mn_tt x lo k + (if lo ≤ k then min (x ^ k) 1000 else 0) ≤ _
    split <;> omega
theorem mn_tt_eq (x lo : Nat) : ∀ k, min (mn_tt x lo k) 1000 = min (ps_s x lo k) 1000 := by
  intro k
  induction k with
  | zero => rfl
  | succ k ih =>
    show min (mn_tt x lo k + (if lo ≤ k then min (x ^ k) 1000 else 0)) 1000 = min (ps_s x lo k + (if lo ≤ k then x ^ k else 0)) 1000
    split
    · generalize x ^ k = y
      omega
    · omega
theorem mn_ps {x lo k : Nat} : min (min (ps_s x lo k) 1000 + min (x ^ k) 1000) 1000 = min (ps_s x lo k + x ^ k) 1000 := by
  generalize x ^ k = y
  omega
