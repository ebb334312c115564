/-! The ghost table g of a program: g 0 kind, g 1 first, g 2 second, g 3 low, g 4 high, g 5 paths, g 6 length, g 7 choices, g 8 steps, g 9 where its part begins -/
def ps_s (x lo : Nat) : Nat → Nat
  | 0 => 0
  | k + 1 => ps_s x lo k + (if lo ≤ k then x ^ k else 0)
theorem ps_mono (x lo : Nat) : ∀ {a b : Nat}, a ≤ b → ps_s x lo a ≤ ps_s x lo b := by
  intro a b h
  induction b with
  | zero => have : a = 0 := by omega
            subst this; exact Nat.le_refl _
  | succ b ih =>
    rcases Nat.lt_or_ge a (b + 1) with h1 | h1
    · exact Nat.le_trans (ih (by omega)) (Nat.le_add_right _ _)
    · have : a = b + 1 := by omega
      subst this; exact Nat.le_refl _
theorem ps_next {x lo k : Nat} (h : lo ≤ k) : ps_s x lo (k + 1) = ps_s x lo k + x ^ k := by
  show ps_s x lo k + (if lo ≤ k then x ^ k else 0) = _
  rw [if_pos h]
theorem ps_skip {x lo k : Nat} (h : ¬ lo ≤ k) : ps_s x lo (k + 1) = ps_s x lo k := by
  show ps_s x lo k + (if lo ≤ k then x ^ k else 0) = _
  rw [if_neg h]; rfl
theorem ps_pos {x lo hi : Nat} (hx : 1 ≤ x) (h : lo ≤ hi) : 1 ≤ ps_s x lo (hi + 1) := by
  rw [ps_next h]
  have : 1 ≤ x ^ hi := Nat.one_le_pow _ _ (by omega)
  omega
def pg_n (g : Nat → Nat → Nat) (n : Nat) : Prop :=
  g 9 n ≤ n ∧ 1 ≤ g 5 n ∧
  ((g 0 n = 0 ∧ g 1 n < 12 ∧ g 3 n = 0 ∧ g 4 n = 0 ∧ g 9 n = n ∧ g 5 n = 1 ∧ g 6 n = 1 ∧ g 7 n = 0 ∧ g 8 n = 1) ∨
   (g 0 n = 1 ∧ g 1 n ≤ 50 ∧ g 3 n = 0 ∧ g 4 n = 0 ∧ g 9 n = n ∧ g 5 n = 1 ∧ g 6 n = 1 ∧ g 7 n = 0 ∧ g 8 n = 1) ∨
   (g 0 n = 2 ∧ g 1 n < g 2 n ∧ g 2 n + 1 = n ∧ g 9 (g 2 n) = g 1 n + 1 ∧ g 9 n = g 9 (g 1 n) ∧ g 3 n = 0 ∧ g 4 n = 0 ∧ g 5 n = g 5 (g 1 n) * g 5 (g 2 n) ∧ g 6 n = g 6 (g 1 n) + g 6 (g 2 n) ∧ g 7 n = g 7 (g 1 n) + g 7 (g 2 n) ∧ g 8 n = 1 + g 8 (g 1 n) + g 8 (g 2 n)) ∨
   (g 0 n = 3 ∧ g 1 n < g 2 n ∧ g 2 n + 1 = n ∧ g 9 (g 2 n) = g 1 n + 1 ∧ g 9 n = g 9 (g 1 n) ∧ g 3 n = 0 ∧ g 4 n = 1 ∧ g 5 n = g 5 (g 1 n) + g 5 (g 2 n) ∧ g 6 n = max (g 6 (g 1 n)) (g 6 (g 2 n)) ∧ g 7 n = 1 + max (g 7 (g 1 n)) (g 7 (g 2 n)) ∧ g 8 n = 1 + g 8 (g 1 n) + g 8 (g 2 n)) ∨
   (g 0 n = 4 ∧ g 1 n + 1 = n ∧ g 9 n = g 9 (g 1 n) ∧ g 3 n ≤ g 4 n ∧ g 4 n ≤ 4 ∧ g 5 n = ps_s (g 5 (g 1 n)) (g 3 n) (g 4 n + 1) ∧ g 6 n = g 4 n * (1 + g 6 (g 1 n)) ∧ g 7 n = (if g 3 n < g 4 n then 1 else 0) + g 4 n * g 7 (g 1 n) ∧ g 8 n = 1 + g 4 n * g 8 (g 1 n)))
def pg_t (g : Nat → Nat → Nat) (m : Nat) : Prop := ∀ n, n < m → pg_n g n
theorem pm_two {xa xb la lb l ma mb : Nat} (ha : ma ≤ xa * (1 + la)) (hb : mb ≤ xb * (1 + lb)) (h1 : la ≤ l) (h2 : lb ≤ l) : 1 + ma + mb ≤ (xa + xb + 1) * (1 + l) := by
  have e1 : xa * (1 + la) ≤ xa * (1 + l) := Nat.mul_le_mul_left _ (by omega)
  have e2 : xb * (1 + lb) ≤ xb * (1 + l) := Nat.mul_le_mul_left _ (by omega)
  have e : (xa + xb + 1) * (1 + l) = xa * (1 + l) + xb * (1 + l) + (1 + l) := by rw [Nat.add_mul, Nat.add_mul, Nat.one_mul]
  omega
theorem pm_lp {x l m h : Nat} (ha : m ≤ x * (1 + l)) : 1 + h * m ≤ (x + 1) * (1 + h * (1 + l)) := by
  have e1 : h * m ≤ h * (x * (1 + l)) := Nat.mul_le_mul_left _ ha
  have e2 : h * (x * (1 + l)) = x * (h * (1 + l)) := Nat.mul_left_comm _ _ _
  have e : (x + 1) * (1 + h * (1 + l)) = x + x * (h * (1 + l)) + (1 + h * (1 + l)) := by rw [Nat.add_mul, Nat.one_mul, Nat.mul_add x, Nat.mul_one]
  omega
theorem pg_M {g : Nat → Nat → Nat} {m : Nat} (T : pg_t g m) : ∀ d n, n < d → n < m → g 8 n ≤ (n + 1 - g 9 n) * (1 + g 6 n) := by
  intro d
  induction d with
  | zero => intro n h; omega
  | succ d ih =>
    intro n hd hn
    obtain ⟨h1, -, h | h | h | h | h⟩ := T n hn
    · obtain ⟨-, -, -, -, e1, -, e2, -, e3⟩ := h
      rw [e1, e2, e3]; have : n + 1 - n = 1 := by omega
      rw [this]; omega
    · obtain ⟨-, -, -, -, e1, -, e2, -, e3⟩ := h
      rw [e1, e2, e3]; have : n + 1 - n = 1 := by omega
      rw [this]; omega
    · obtain ⟨-, f1, f2, f3, f4, -, -, -, f5, -, f6⟩ := h
      have A := ih (g 1 n) (by omega) (by omega)
      have B := ih (g 2 n) (by omega) (by omega)
      obtain ⟨q1, -⟩ := T (g 1 n) (by omega)
      have e : n + 1 - g 9 n = (g 1 n + 1 - g 9 (g 1 n)) + (g 2 n + 1 - g 9 (g 2 n)) + 1 := by omega
      rw [e, f5, f6]
      exact pm_two A B (by omega) (by omega)
    · obtain ⟨-, f1, f2, f3, f4, -, -, -, f5, -, f6⟩ := h
      have A := ih (g 1 n) (by omega) (by omega)
      have B := ih (g 2 n) (by omega) (by omega)
      obtain ⟨q1, -⟩ := T (g 1 n) (by omega)
      have e : n + 1 - g 9 n = (g 1 n + 1 - g 9 (g 1 n)) + (g 2 n + 1 - g 9 (g 2 n)) + 1 := by omega
      rw [e, f5, f6]
      exact pm_two A B (Nat.le_max_left _ _) (Nat.le_max_right _ _)
    · obtain ⟨-, f1, f2, f3, f4, -, f5, -, f6⟩ := h
      have A := ih (g 1 n) (by omega) (by omega)
      obtain ⟨q1, -⟩ := T (g 1 n) (by omega)
      have e : n + 1 - g 9 n = (g 1 n + 1 - g 9 (g 1 n)) + 1 := by omega
      rw [e, f5, f6]
      exact pm_lp A
theorem pg_M18 {g : Nat → Nat → Nat} {m n : Nat} (T : pg_t g m) (hm : m ≤ 18) (hn : n < m) (hL : g 6 n ≤ 120) : g 8 n ≤ 2178 := by
  have h := pg_M T (n + 1) n (by omega) hn
  have h2 : (n + 1 - g 9 n) * (1 + g 6 n) ≤ 18 * 121 := Nat.mul_le_mul (by omega) (by omega)
  omega
/-! sums over a list of pending statements -/
def lm_c (g : Nat → Nat → Nat) : List Nat → Nat
  | [] => 1
  | n :: K => g 5 n * lm_c g K
def lm_k (g : Nat → Nat → Nat) : List Nat → Nat
  | [] => 0
  | n :: K => g 7 n + lm_k g K
def lm_m (g : Nat → Nat → Nat) : List Nat → Nat
  | [] => 0
  | n :: K => g 8 n + lm_m g K
theorem lm_c_rep (g : Nat → Nat → Nat) (a : Nat) (K : List Nat) : ∀ k, lm_c g (List.replicate k a ++ K) = g 5 a ^ k * lm_c g K := by
  intro k
  induction k with
  | zero => simp [List.replicate]
  | succ k ih =>
    rw [List.replicate_succ, List.cons_append]
    show g 5 a * lm_c g (List.replicate k a ++ K) = _
    rw [ih, Nat.pow_succ, ← Nat.mul_assoc, Nat.mul_comm (g 5 a)]
theorem lm_k_rep (g : Nat → Nat → Nat) (a : Nat) (K : List Nat) : ∀ k, lm_k g (List.replicate k a ++ K) = k * g 7 a + lm_k g K := by
  intro k
  induction k with
  | zero => simp [List.replicate]
  | succ k ih =>
    rw [List.replicate_succ, List.cons_append]
    show g 7 a + lm_k g (List.replicate k a ++ K) = _
    rw [ih, Nat.succ_mul]; omega
theorem lm_m_rep (g : Nat → Nat → Nat) (a : Nat) (K : List Nat) : ∀ k, lm_m g (List.replicate k a ++ K) = k * g 8 a + lm_m g K := by
  intro k
  induction k with
  | zero => simp [List.replicate]
  | succ k ih =>
    rw [List.replicate_succ, List.cons_append]
    show g 8 a + lm_m g (List.replicate k a ++ K) = _
    rw [ih, Nat.succ_mul]; omega
/-! the machine: pending statements, choices made, paths ahead of this one -/
def lm_ch (g : Nat → Nat → Nat) (n : Nat) : Prop := g 0 n = 3 ∨ (3 < g 0 n ∧ g 3 n < g 4 n)
def lm_st (g : Nat → Nat → Nat) (q : Nat → Int32) : List Nat × Nat × Nat → List Nat × Nat × Nat
  | ([], t, c) => ([], t, c)
  | (n :: K, t, c) =>
    if g 0 n ≤ 1 then (K, t, c)
    else if g 0 n = 2 then (g 1 n :: g 2 n :: K, t, c)
    else if g 0 n = 3 then (if q t = 0 then (g 1 n :: K, t + 1, c) else (g 2 n :: K, t + 1, c + g 5 (g 1 n) * lm_c g K))
    else if g 3 n < g 4 n then (List.replicate (q t).toNatClampNeg (g 1 n) ++ K, t + 1, c + ps_s (g 5 (g 1 n)) (g 3 n) (q t).toNatClampNeg * lm_c g K)
    else (List.replicate (g 3 n) (g 1 n) ++ K, t, c)
def lm_cf (g : Nat → Nat → Nat) (q : Nat → Int32) (root : Nat) : Nat → List Nat × Nat × Nat
  | 0 => ([root], 0, 0)
  | i + 1 => lm_st g q (lm_cf g q root i)
theorem lm_t {g : Nat → Nat → Nat} {q : Nat → Int32} (x : List Nat × Nat × Nat) : x.2.1 ≤ (lm_st g q x).2.1 ∧ (lm_st g q x).2.1 ≤ x.2.1 + 1 ∧ x.2.2 ≤ (lm_st g q x).2.2 := by
  obtain ⟨L, t, c⟩ := x
  cases L with
  | nil => simp [lm_st]
  | cons n K =>
    unfold lm_st
    dsimp only
    repeat' split
    all_goals dsimp only
    all_goals omega
theorem lm_tmono {g : Nat → Nat → Nat} {q : Nat → Int32} {r : Nat} {i j : Nat} (h : i ≤ j) : (lm_cf g q r i).2.1 ≤ (lm_cf g q r j).2.1 ∧ (lm_cf g q r i).2.2 ≤ (lm_cf g q r j).2.2 := by
  induction j with
  | zero => have : i = 0 := by omega
            subst this; exact ⟨Nat.le_refl _, Nat.le_refl _⟩
  | succ j ih =>
    rcases Nat.lt_or_ge i (j + 1) with h1 | h1
    · have a := ih (by omega)
      have b := lm_t (g := g) (q := q) (lm_cf g q r j)
      exact ⟨Nat.le_trans a.1 b.1, Nat.le_trans a.2 b.2.2⟩
    · have : i = j + 1 := by omega
      subst this; exact ⟨Nat.le_refl _, Nat.le_refl _⟩
theorem lm_st_eq {g : Nat → Nat → Nat} {q q' : Nat → Int32} (x : List Nat × Nat × Nat) (h : ∀ i, i < (lm_st g q x).2.1 → q i = q' i) : lm_st g q' x = lm_st g q x := by
  obtain ⟨L, t, c⟩ := x
  cases L with
  | nil => rfl
  | cons n K =>
    rcases Nat.lt_or_ge t (lm_st g q (n :: K, t, c)).2.1 with z | z
    · have e := h t z
      unfold lm_st
      dsimp only
      rw [e]
    · unfold lm_st at z ⊢
      dsimp only at z ⊢
      by_cases h1 : g 0 n ≤ 1
      · rw [if_pos h1, if_pos h1]
      · rw [if_neg h1] at z ⊢
        rw [if_neg h1]
        by_cases h2 : g 0 n = 2
        · rw [if_pos h2, if_pos h2]
        · rw [if_neg h2] at z ⊢
          rw [if_neg h2]
          by_cases h3 : g 0 n = 3
          · rw [if_pos h3] at z
            exfalso
            by_cases h4 : q t = 0
            · rw [if_pos h4] at z; dsimp only at z; omega
            · rw [if_neg h4] at z; dsimp only at z; omega
          · rw [if_neg h3] at z ⊢
            rw [if_neg h3]
            by_cases h4 : g 3 n < g 4 n
            · rw [if_pos h4] at z; dsimp only at z; exfalso; omega
            · rw [if_neg h4, if_neg h4]
theorem lm_eq {g : Nat → Nat → Nat} {q q' : Nat → Int32} {r : Nat} : ∀ i, (∀ k, k < (lm_cf g q r i).2.1 → q k = q' k) → lm_cf g q' r i = lm_cf g q r i := by
  intro i
  induction i with
  | zero => intro _; rfl
  | succ i ih =>
    intro h
    have a : lm_cf g q' r i = lm_cf g q r i := ih fun k hk => h k (Nat.lt_of_lt_of_le hk (lm_tmono (Nat.le_succ i)).1)
    show lm_st g q' (lm_cf g q' r i) = lm_st g q (lm_cf g q r i)
    rw [a]
    exact lm_st_eq _ h
theorem lm_leaf {g : Nat → Nat → Nat} {q : Nat → Int32} {n t c : Nat} {K : List Nat} (h : g 0 n ≤ 1) : lm_st g q (n :: K, t, c) = (K, t, c) := by
  unfold lm_st; dsimp only; rw [if_pos h]
theorem lm_seq {g : Nat → Nat → Nat} {q : Nat → Int32} {n t c : Nat} {K : List Nat} (h : g 0 n = 2) : lm_st g q (n :: K, t, c) = (g 1 n :: g 2 n :: K, t, c) := by
  unfold lm_st; dsimp only; rw [if_neg (by omega), if_pos h]
theorem lm_if0 {g : Nat → Nat → Nat} {q : Nat → Int32} {n t c : Nat} {K : List Nat} (h : g 0 n = 3) (hq : q t = 0) : lm_st g q (n :: K, t, c) = (g 1 n :: K, t + 1, c) := by
  unfold lm_st; dsimp only; rw [if_neg (by omega), if_neg (by omega), if_pos h, if_pos hq]
theorem lm_if1 {g : Nat → Nat → Nat} {q : Nat → Int32} {n t c : Nat} {K : List Nat} (h : g 0 n = 3) (hq : ¬ q t = 0) : lm_st g q (n :: K, t, c) = (g 2 n :: K, t + 1, c + g 5 (g 1 n) * lm_c g K) := by
  unfold lm_st; dsimp only; rw [if_neg (by omega), if_neg (by omega), if_pos h, if_neg hq]
theorem lm_lp1 {g : Nat → Nat → Nat} {q : Nat → Int32} {n t c k : Nat} {K : List Nat} (h : g 0 n = 4) (hl : g 3 n < g 4 n) (hq : q t = nI k) (hk : k < 2 ^ 31) : lm_st g q (n :: K, t, c) = (List.replicate k (g 1 n) ++ K, t + 1, c + ps_s (g 5 (g 1 n)) (g 3 n) k * lm_c g K) := by
  unfold lm_st; dsimp only; rw [if_neg (by omega), if_neg (by omega), if_neg (by omega), if_pos hl, hq, nI_clamp hk]
theorem lm_lp0 {g : Nat → Nat → Nat} {q : Nat → Int32} {n t c : Nat} {K : List Nat} (h : g 0 n = 4) (hl : ¬ g 3 n < g 4 n) : lm_st g q (n :: K, t, c) = (List.replicate (g 3 n) (g 1 n) ++ K, t, c) := by
  unfold lm_st; dsimp only; rw [if_neg (by omega), if_neg (by omega), if_neg (by omega), if_neg hl]
