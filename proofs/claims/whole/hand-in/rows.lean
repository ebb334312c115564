section
/-! rows pasted from kit/rows -/
theorem pk_sub {a b : Nat} (h : b ≤ a) : nI a - nI b = nI (a - b) := by
  obtain ⟨c, rfl⟩ : ∃ c, a = c + b := ⟨a - b, by omega⟩
  rw [← nI_add, Int32.add_sub_cancel, Nat.add_sub_cancel]
theorem pk_mul (a b : Nat) : nI a * nI b = nI (a * b) := (Int32.ofNat_mul a b).symm
theorem pk_div {a d : Nat} (ha : a < 2 ^ 31) (h0 : 0 < d) (hd : d < 2 ^ 31) : nI a / nI d = nI (a / d) := by
  apply Int32.toInt_inj.mp
  rw [lg_idiv_nonneg (by rw [nI_toInt ha]; omega) (by rw [nI_toInt hd]; omega), nI_toInt ha, nI_toInt hd, nI_toInt (Nat.lt_of_le_of_lt (Nat.div_le_self a d) ha)]
  first | rfl | exact (Int.natCast_ediv _ _).symm
theorem pk_rem {a d : Nat} (ha : a < 2 ^ 31) (h0 : 0 < d) (hd : d < 2 ^ 31) : nI a - nI a / nI d * nI d = nI (a % d) := by
  rw [pk_div ha h0 hd, pk_mul, pk_sub (Nat.div_mul_le_self a d)]
  exact congrArg nI (by have := Nat.div_add_mod' a d; omega)
theorem pk_m1 (n : Nat) : nI (n + 1) + (-1) = nI n := by
  rw [← nI_1, Int32.add_assoc, show (1 : Int32) + (-1) = 0 from rfl, Int32.add_zero]
theorem pk_lT {n : Nat} (h : n < 2 ^ 63) : (lN n).toInt = (n : Int) := lg_ofNat_toInt h
theorem pk_lEQ {a b : Nat} (ha : a < 2 ^ 63) (hb : b < 2 ^ 63) : lN a = lN b ↔ a = b := by
  rw [← Int64.toInt_inj, pk_lT ha, pk_lT hb]; omega
theorem pk_uLs {f : Nat → Int64} {k : Nat} {x : Int64} : vp_updL f k x k = x := if_pos rfl
theorem pk_uLn {f : Nat → Int64} {k j : Nat} {x : Int64} (h : j ≠ k) : vp_updL f k x j = f j := if_neg h
theorem u_tn {n : Nat} (h : n < 2 ^ 64) : (UInt64.ofNat n).toNat = n := Nat.mod_eq_of_lt h
theorem g_or {k p a b : Nat} (hp : 2 ^ k = p) (ha : a < p) (h : b * p + a < 2 ^ 64) : lN (b * p) ||| lN a = lN (b * p + a) := by
  subst hp
  have h1 : b * 2 ^ k ||| a = b * 2 ^ k + a := by rw [← Nat.shiftLeft_eq, Nat.shiftLeft_add_eq_or_of_lt ha]
  have h3 : UInt64.ofNat (b * 2 ^ k) ||| UInt64.ofNat a = UInt64.ofNat (b * 2 ^ k + a) := UInt64.toNat_inj.mp (by rw [UInt64.toNat_or, u_tn (by omega), u_tn (by omega), u_tn h, h1])
  have h2 := congrArg UInt64.toInt64 h3
  exact h2
theorem g_shl {a k p : Nat} {y : Int64} (hy : y.toBitVec.smod 64 = BitVec.ofNat 64 k) (hk : k < 64) (hp : 2 ^ k = p) (ha : a < 2 ^ 64) : lN a <<< y = lN (a * p) := by
  subst hp
  apply Int64.toBitVec_inj.mp
  rw [Int64.toBitVec_shiftLeft, hy]
  apply BitVec.eq_of_toNat_eq
  have hb : (lN a).toBitVec.toNat = a := Nat.mod_eq_of_lt ha
  have hk' : (BitVec.ofNat 64 k).toNat = k := Nat.mod_eq_of_lt (by omega)
  have h : ((lN a).toBitVec <<< BitVec.ofNat 64 k).toNat = (a * 2 ^ k) % 2 ^ 64 := by simp only [BitVec.shiftLeft_eq', BitVec.toNat_shiftLeft, hb, hk', Nat.shiftLeft_eq]
  exact h
end
section
/-! The ghost table g of a program: g 0 kind, g 1 first, g 2 second, g 3 low, g 4 high, g 5 paths, g 6 length, g 7 choices, g 8 steps, g 9 where its part begins -/
def ps_s (x lo : Nat) : Nat → Nat
  | 0 => 0
  | k + 1 => ps_s x lo k + (if lo ≤ k then x ^ k else 0)
theorem ps_mono (x lo : Nat) : ∀ {a b : Nat}, a ≤ b → ps_s x lo a ≤ ps_s x lo b := by
  intro a b h
  induction b with
  | zero => have : a = 0 := by omega
            subst this; exact Nat.le_refl _
  | succ b ih =>
    rcases Nat.lt_or_ge a (b + 1) with h1 | h1
    · exact Nat.le_trans (ih (by omega)) (Nat.le_add_right _ _)
    · have : a = b + 1 := by omega
      subst this; exact Nat.le_refl _
theorem ps_next {x lo k : Nat} (h : lo ≤ k) : ps_s x lo (k + 1) = ps_s x lo k + x ^ k := by
  show ps_s x lo k + (if lo ≤ k then x ^ k else 0) = _
  rw [if_pos h]
theorem ps_skip {x lo k : Nat} (h : ¬ lo ≤ k) : ps_s x lo (k + 1) = ps_s x lo k := by
  show ps_s x lo k + (if lo ≤ k then x ^ k else 0) = _
  rw [if_neg h]; rfl
theorem ps_pos {x lo hi : Nat} (hx : 1 ≤ x) (h : lo ≤ hi) : 1 ≤ ps_s x lo (hi + 1) := by
  rw [ps_next h]
  have : 1 ≤ x ^ hi := Nat.one_le_pow _ _ (by omega)
  omega
def pg_n (g : Nat → Nat → Nat) (n : Nat) : Prop :=
  g 9 n ≤ n ∧ 1 ≤ g 5 n ∧
  ((g 0 n = 0 ∧ g 1 n < 12 ∧ g 3 n = 0 ∧ g 4 n = 0 ∧ g 9 n = n ∧ g 5 n = 1 ∧ g 6 n = 1 ∧ g 7 n = 0 ∧ g 8 n = 1) ∨
   (g 0 n = 1 ∧ g 1 n ≤ 50 ∧ g 3 n = 0 ∧ g 4 n = 0 ∧ g 9 n = n ∧ g 5 n = 1 ∧ g 6 n = 1 ∧ g 7 n = 0 ∧ g 8 n = 1) ∨
   (g 0 n = 2 ∧ g 1 n < g 2 n ∧ g 2 n + 1 = n ∧ g 9 (g 2 n) = g 1 n + 1 ∧ g 9 n = g 9 (g 1 n) ∧ g 3 n = 0 ∧ g 4 n = 0 ∧ g 5 n = g 5 (g 1 n) * g 5 (g 2 n) ∧ g 6 n = g 6 (g 1 n) + g 6 (g 2 n) ∧ g 7 n = g 7 (g 1 n) + g 7 (g 2 n) ∧ g 8 n = 1 + g 8 (g 1 n) + g 8 (g 2 n)) ∨
   (g 0 n = 3 ∧ g 1 n < g 2 n ∧ g 2 n + 1 = n ∧ g 9 (g 2 n) = g 1 n + 1 ∧ g 9 n = g 9 (g 1 n) ∧ g 3 n = 0 ∧ g 4 n = 1 ∧ g 5 n = g 5 (g 1 n) + g 5 (g 2 n) ∧ g 6 n = max (g 6 (g 1 n)) (g 6 (g 2 n)) ∧ g 7 n = 1 + max (g 7 (g 1 n)) (g 7 (g 2 n)) ∧ g 8 n = 1 + g 8 (g 1 n) + g 8 (g 2 n)) ∨
   (g 0 n = 4 ∧ g 1 n + 1 = n ∧ g 9 n = g 9 (g 1 n) ∧ g 3 n ≤ g 4 n ∧ g 4 n ≤ 4 ∧ g 5 n = ps_s (g 5 (g 1 n)) (g 3 n) (g 4 n + 1) ∧ g 6 n = g 4 n * (1 + g 6 (g 1 n)) ∧ g 7 n = (if g 3 n < g 4 n then 1 else 0) + g 4 n * g 7 (g 1 n) ∧ g 8 n = 1 + g 4 n * g 8 (g 1 n)))
def pg_t (g : Nat → Nat → Nat) (m : Nat) : Prop := ∀ n, n < m → pg_n g n
theorem pm_two {xa xb la lb l ma mb : Nat} (ha : ma ≤ xa * (1 + la)) (hb : mb ≤ xb * (1 + lb)) (h1 : la ≤ l) (h2 : lb ≤ l) : 1 + ma + mb ≤ (xa + xb + 1) * (1 + l) := by
  have e1 : xa * (1 + la) ≤ xa * (1 + l) := Nat.mul_le_mul_left _ (by omega)
  have e2 : xb * (1 + lb) ≤ xb * (1 + l) := Nat.mul_le_mul_left _ (by omega)
  have e : (xa + xb + 1) * (1 + l) = xa * (1 + l) + xb * (1 + l) + (1 + l) := by rw [Nat.add_mul, Nat.add_mul, Nat.one_mul]
  omega
theorem pm_lp {x l m h : Nat} (ha : m ≤ x * (1 + l)) : 1 + h * m ≤ (x + 1) * (1 + h * (1 + l)) := by
  have e1 : h * m ≤ h * (x * (1 + l)) := Nat.mul_le_mul_left _ ha
  have e2 : h * (x * (1 + l)) = x * (h * (1 + l)) := Nat.mul_left_comm _ _ _
  have e : (x + 1) * (1 + h * (1 + l)) = x + x * (h * (1 + l)) + (1 + h * (1 + l)) := by rw [Nat.add_mul, Nat.one_mul, Nat.mul_add x, Nat.mul_one]
  omega
theorem pg_M {g : Nat → Nat → Nat} {m : Nat} (T : pg_t g m) : ∀ d n, n < d → n < m → g 8 n ≤ (n + 1 - g 9 n) * (1 + g 6 n) := by
  intro d
  induction d with
  | zero => intro n h; omega
  | succ d ih =>
    intro n hd hn
    obtain ⟨h1, -, h | h | h | h | h⟩ := T n hn
    · obtain ⟨-, -, -, -, e1, -, e2, -, e3⟩ := h
      rw [e1, e2, e3]; have : n + 1 - n = 1 := by omega
      rw [this]; omega
    · obtain ⟨-, -, -, -, e1, -, e2, -, e3⟩ := h
      rw [e1, e2, e3]; have : n + 1 - n = 1 := by omega
      rw [this]; omega
    · obtain ⟨-, f1, f2, f3, f4, -, -, -, f5, -, f6⟩ := h
      have A := ih (g 1 n) (by omega) (by omega)
      have B := ih (g 2 n) (by omega) (by omega)
      obtain ⟨q1, -⟩ := T (g 1 n) (by omega)
      have e : n + 1 - g 9 n = (g 1 n + 1 - g 9 (g 1 n)) + (g 2 n + 1 - g 9 (g 2 n)) + 1 := by omega
      rw [e, f5, f6]
      exact pm_two A B (by omega) (by omega)
    · obtain ⟨-, f1, f2, f3, f4, -, -, -, f5, -, f6⟩ := h
      have A := ih (g 1 n) (by omega) (by omega)
      have B := ih (g 2 n) (by omega) (by omega)
      obtain ⟨q1, -⟩ := T (g 1 n) (by omega)
      have e : n + 1 - g 9 n = (g 1 n + 1 - g 9 (g 1 n)) + (g 2 n + 1 - g 9 (g 2 n)) + 1 := by omega
      rw [e, f5, f6]
      exact pm_two A B (Nat.le_max_left _ _) (Nat.le_max_right _ _)
    · obtain ⟨-, f1, f2, f3, f4, -, f5, -, f6⟩ := h
      have A := ih (g 1 n) (by omega) (by omega)
      obtain ⟨q1, -⟩ := T (g 1 n) (by omega)
      have e : n + 1 - g 9 n = (g 1 n + 1 - g 9 (g 1 n)) + 1 := by omega
      rw [e, f5, f6]
      exact pm_lp A
theorem pg_M18 {g : Nat → Nat → Nat} {m n : Nat} (T : pg_t g m) (hm : m ≤ 18) (hn : n < m) (hL : g 6 n ≤ 120) : g 8 n ≤ 2178 := by
  have h := pg_M T (n + 1) n (by omega) hn
  have h2 : (n + 1 - g 9 n) * (1 + g 6 n) ≤ 18 * 121 := Nat.mul_le_mul (by omega) (by omega)
  omega
/-! sums over a list of pending statements -/
def lm_c (g : Nat → Nat → Nat) : List Nat → Nat
  | [] => 1
  | n :: K => g 5 n * lm_c g K
def lm_k (g : Nat → Nat → Nat) : List Nat → Nat
  | [] => 0
  | n :: K => g 7 n + lm_k g K
def lm_m (g : Nat → Nat → Nat) : List Nat → Nat
  | [] => 0
  | n :: K => g 8 n + lm_m g K
theorem lm_c_rep (g : Nat → Nat → Nat) (a : Nat) (K : List Nat) : ∀ k, lm_c g (List.replicate k a ++ K) = g 5 a ^ k * lm_c g K := by
  intro k
  induction k with
  | zero => simp [List.replicate]
  | succ k ih =>
    rw [List.replicate_succ, List.cons_append]
    show g 5 a * lm_c g (List.replicate k a ++ K) = _
    rw [ih, Nat.pow_succ, ← Nat.mul_assoc, Nat.mul_comm (g 5 a)]
theorem lm_k_rep (g : Nat → Nat → Nat) (a : Nat) (K : List Nat) : ∀ k, lm_k g (List.replicate k a ++ K) = k * g 7 a + lm_k g K := by
  intro k
  induction k with
  | zero => simp [List.replicate]
  | succ k ih =>
    rw [List.replicate_succ, List.cons_append]
    show g 7 a + lm_k g (List.replicate k a ++ K) = _
    rw [ih, Nat.succ_mul]; omega
theorem lm_m_rep (g : Nat → Nat → Nat) (a : Nat) (K : List Nat) : ∀ k, lm_m g (List.replicate k a ++ K) = k * g 8 a + lm_m g K := by
  intro k
  induction k with
  | zero => simp [List.replicate]
  | succ k ih =>
    rw [List.replicate_succ, List.cons_append]
    show g 8 a + lm_m g (List.replicate k a ++ K) = _
    rw [ih, Nat.succ_mul]; omega
/-! the machine: pending statements, choices made, paths ahead of this one -/
def lm_ch (g : Nat → Nat → Nat) (n : Nat) : Prop := g 0 n = 3 ∨ (3 < g 0 n ∧ g 3 n < g 4 n)
def lm_st (g : Nat → Nat → Nat) (q : Nat → Int32) : List Nat × Nat × Nat → List Nat × Nat × Nat
  | ([], t, c) => ([], t, c)
  | (n :: K, t, c) =>
    if g 0 n ≤ 1 then (K, t, c)
    else if g 0 n = 2 then (g 1 n :: g 2 n :: K, t, c)
    else if g 0 n = 3 then (if q t = 0 then (g 1 n :: K, t + 1, c) else (g 2 n :: K, t + 1, c + g 5 (g 1 n) * lm_c g K))
    else if g 3 n < g 4 n then (List.replicate (q t).toNatClampNeg (g 1 n) ++ K, t + 1, c + ps_s (g 5 (g 1 n)) (g 3 n) (q t).toNatClampNeg * lm_c g K)
    else (List.replicate (g 3 n) (g 1 n) ++ K, t, c)
def lm_cf (g : Nat → Nat → Nat) (q : Nat → Int32) (root : Nat) : Nat → List Nat × Nat × Nat
  | 0 => ([root], 0, 0)
  | i + 1 => lm_st g q (lm_cf g q root i)
theorem lm_t {g : Nat → Nat → Nat} {q : Nat → Int32} (x : List Nat × Nat × Nat) : x.2.1 ≤ (lm_st g q x).2.1 ∧ (lm_st g q x).2.1 ≤ x.2.1 + 1 ∧ x.2.2 ≤ (lm_st g q x).2.2 := by
  obtain ⟨L, t, c⟩ := x
  cases L with
  | nil => simp [lm_st]
  | cons n K =>
    unfold lm_st
    dsimp only
    repeat' split
    all_goals dsimp only
    all_goals omega
theorem lm_tmono {g : Nat → Nat → Nat} {q : Nat → Int32} {r : Nat} {i j : Nat} (h : i ≤ j) : (lm_cf g q r i).2.1 ≤ (lm_cf g q r j).2.1 ∧ (lm_cf g q r i).2.2 ≤ (lm_cf g q r j).2.2 := by
  induction j with
  | zero => have : i = 0 := by omega
            subst this; exact ⟨Nat.le_refl _, Nat.le_refl _⟩
  | succ j ih =>
    rcases Nat.lt_or_ge i (j + 1) with h1 | h1
    · have a := ih (by omega)
      have b := lm_t (g := g) (q := q) (lm_cf g q r j)
      exact ⟨Nat.le_trans a.1 b.1, Nat.le_trans a.2 b.2.2⟩
    · have : i = j + 1 := by omega
      subst this; exact ⟨Nat.le_refl _, Nat.le_refl _⟩
theorem lm_st_eq {g : Nat → Nat → Nat} {q q' : Nat → Int32} (x : List Nat × Nat × Nat) (h : ∀ i, i < (lm_st g q x).2.1 → q i = q' i) : lm_st g q' x = lm_st g q x := by
  obtain ⟨L, t, c⟩ := x
  cases L with
  | nil => rfl
  | cons n K =>
    rcases Nat.lt_or_ge t (lm_st g q (n :: K, t, c)).2.1 with z | z
    · have e := h t z
      unfold lm_st
      dsimp only
      rw [e]
    · unfold lm_st at z ⊢
      dsimp only at z ⊢
      by_cases h1 : g 0 n ≤ 1
      · rw [if_pos h1, if_pos h1]
      · rw [if_neg h1] at z ⊢
        rw [if_neg h1]
        by_cases h2 : g 0 n = 2
        · rw [if_pos h2, if_pos h2]
        · rw [if_neg h2] at z ⊢
          rw [if_neg h2]
          by_cases h3 : g 0 n = 3
          · rw [if_pos h3] at z
            exfalso
            by_cases h4 : q t = 0
            · rw [if_pos h4] at z; dsimp only at z; omega
            · rw [if_neg h4] at z; dsimp only at z; omega
          · rw [if_neg h3] at z ⊢
            rw [if_neg h3]
            by_cases h4 : g 3 n < g 4 n
            · rw [if_pos h4] at z; dsimp only at z; exfalso; omega
            · rw [if_neg h4, if_neg h4]
theorem lm_eq {g : Nat → Nat → Nat} {q q' : Nat → Int32} {r : Nat} : ∀ i, (∀ k, k < (lm_cf g q r i).2.1 → q k = q' k) → lm_cf g q' r i = lm_cf g q r i := by
  intro i
  induction i with
  | zero => intro _; rfl
  | succ i ih =>
    intro h
    have a : lm_cf g q' r i = lm_cf g q r i := ih fun k hk => h k (Nat.lt_of_lt_of_le hk (lm_tmono (Nat.le_succ i)).1)
    show lm_st g q' (lm_cf g q' r i) = lm_st g q (lm_cf g q r i)
    rw [a]
    exact lm_st_eq _ h
theorem lm_leaf {g : Nat → Nat → Nat} {q : Nat → Int32} {n t c : Nat} {K : List Nat} (h : g 0 n ≤ 1) : lm_st g q (n :: K, t, c) = (K, t, c) := by
  unfold lm_st; dsimp only; rw [if_pos h]
theorem lm_seq {g : Nat → Nat → Nat} {q : Nat → Int32} {n t c : Nat} {K : List Nat} (h : g 0 n = 2) : lm_st g q (n :: K, t, c) = (g 1 n :: g 2 n :: K, t, c) := by
  unfold lm_st; dsimp only; rw [if_neg (by omega), if_pos h]
theorem lm_if0 {g : Nat → Nat → Nat} {q : Nat → Int32} {n t c : Nat} {K : List Nat} (h : g 0 n = 3) (hq : q t = 0) : lm_st g q (n :: K, t, c) = (g 1 n :: K, t + 1, c) := by
  unfold lm_st; dsimp only; rw [if_neg (by omega), if_neg (by omega), if_pos h, if_pos hq]
theorem lm_if1 {g : Nat → Nat → Nat} {q : Nat → Int32} {n t c : Nat} {K : List Nat} (h : g 0 n = 3) (hq : ¬ q t = 0) : lm_st g q (n :: K, t, c) = (g 2 n :: K, t + 1, c + g 5 (g 1 n) * lm_c g K) := by
  unfold lm_st; dsimp only; rw [if_neg (by omega), if_neg (by omega), if_pos h, if_neg hq]
theorem lm_lp1 {g : Nat → Nat → Nat} {q : Nat → Int32} {n t c k : Nat} {K : List Nat} (h : g 0 n = 4) (hl : g 3 n < g 4 n) (hq : q t = nI k) (hk : k < 2 ^ 31) : lm_st g q (n :: K, t, c) = (List.replicate k (g 1 n) ++ K, t + 1, c + ps_s (g 5 (g 1 n)) (g 3 n) k * lm_c g K) := by
  unfold lm_st; dsimp only; rw [if_neg (by omega), if_neg (by omega), if_neg (by omega), if_pos hl, hq, nI_clamp hk]
theorem lm_lp0 {g : Nat → Nat → Nat} {q : Nat → Int32} {n t c : Nat} {K : List Nat} (h : g 0 n = 4) (hl : ¬ g 3 n < g 4 n) : lm_st g q (n :: K, t, c) = (List.replicate (g 3 n) (g 1 n) ++ K, t, c) := by
  unfold lm_st; dsimp only; rw [if_neg (by omega), if_neg (by omega), if_neg (by omega), if_neg hl]
end
section
def lm_ok (g : Nat → Nat → Nat) (q : Nat → Int32) (n t : Nat) : Prop := ∃ k, q t = nI k ∧ g 3 n ≤ k ∧ k ≤ g 4 n
def lm_V (g : Nat → Nat → Nat) (q : Nat → Int32) (r j : Nat) : Prop := ∀ a, a < j → ∀ n K t c, lm_cf g q r a = (n :: K, t, c) → lm_ch g n → lm_ok g q n t
theorem pg_kd {g : Nat → Nat → Nat} {n : Nat} (h : pg_n g n) : g 0 n ≤ 4 := by
  obtain ⟨-, -, h | h | h | h | h⟩ := h <;> omega
theorem lm_step {g : Nat → Nat → Nat} {q : Nat → Int32} {n t c : Nat} {K : List Nat} (N : pg_n g n) (V : lm_ch g n → lm_ok g q n t) :
    (lm_st g q (n :: K, t, c)).2.2 + lm_c g (lm_st g q (n :: K, t, c)).1 ≤ c + lm_c g (n :: K) ∧
    (lm_st g q (n :: K, t, c)).2.1 + lm_k g (lm_st g q (n :: K, t, c)).1 ≤ t + lm_k g (n :: K) ∧
    lm_m g (lm_st g q (n :: K, t, c)).1 + 1 ≤ lm_m g (n :: K) := by
  obtain ⟨-, hp, h | h | h | h | h⟩ := N
  · obtain ⟨h0, -, -, -, -, p1, -, c1, m1⟩ := h
    rw [lm_leaf (by omega)]
    dsimp only [lm_c, lm_k, lm_m]
    rw [p1, c1, m1]
    omega
  · obtain ⟨h0, -, -, -, -, p1, -, c1, m1⟩ := h
    rw [lm_leaf (by omega)]
    dsimp only [lm_c, lm_k, lm_m]
    rw [p1, c1, m1]
    omega
  · obtain ⟨h0, -, -, -, -, -, -, p1, -, c1, m1⟩ := h
    rw [lm_seq h0]
    dsimp only [lm_c, lm_k, lm_m]
    rw [p1, c1, m1, Nat.mul_assoc]
    omega
  · obtain ⟨h0, -, -, -, -, -, -, p1, -, c1, m1⟩ := h
    obtain ⟨k, e, -, -⟩ := V (Or.inl h0)
    have b1 := Nat.le_max_left (g 7 (g 1 n)) (g 7 (g 2 n))
    have b2 := Nat.le_max_right (g 7 (g 1 n)) (g 7 (g 2 n))
    by_cases z : q t = 0
    · rw [lm_if0 h0 z]
      dsimp only [lm_c, lm_k, lm_m]
      rw [p1, c1, m1, Nat.add_mul]
      generalize max (g 7 (g 1 n)) (g 7 (g 2 n)) = mx at *
      omega
    · rw [lm_if1 h0 z]
      dsimp only [lm_c, lm_k, lm_m]
      rw [p1, c1, m1, Nat.add_mul]
      generalize max (g 7 (g 1 n)) (g 7 (g 2 n)) = mx at *
      omega
  · obtain ⟨h0, -, -, hl, h4, p1, -, c1, m1⟩ := h
    by_cases z : g 3 n < g 4 n
    · obtain ⟨k, e, k1, k2⟩ := V (Or.inr ⟨by omega, z⟩)
      rw [lm_lp1 h0 z e (by omega)]
      dsimp only
      rw [lm_c_rep, lm_k_rep, lm_m_rep]
      dsimp only [lm_c, lm_k, lm_m]
      rw [p1, c1, m1, if_pos z]
      have a1 : ps_s (g 5 (g 1 n)) (g 3 n) k * lm_c g K + g 5 (g 1 n) ^ k * lm_c g K ≤ ps_s (g 5 (g 1 n)) (g 3 n) (g 4 n + 1) * lm_c g K := by
        rw [← Nat.add_mul, ← ps_next k1]
        exact Nat.mul_le_mul_right _ (ps_mono _ _ (by omega))
      have a2 : k * g 7 (g 1 n) ≤ g 4 n * g 7 (g 1 n) := Nat.mul_le_mul_right _ k2
      have a3 : k * g 8 (g 1 n) ≤ g 4 n * g 8 (g 1 n) := Nat.mul_le_mul_right _ k2
      omega
    · rw [lm_lp0 h0 z]
      dsimp only
      rw [lm_c_rep, lm_k_rep, lm_m_rep]
      dsimp only [lm_c, lm_k, lm_m]
      rw [p1, c1, m1, if_neg z]
      have e : g 3 n = g 4 n := by omega
      rw [e]
      have a1 : g 5 (g 1 n) ^ g 4 n * lm_c g K ≤ ps_s (g 5 (g 1 n)) (g 4 n) (g 4 n + 1) * lm_c g K := by
        rw [ps_next (Nat.le_refl _)]
        exact Nat.mul_le_mul_right _ (by omega)
      omega
theorem lm_mem {g : Nat → Nat → Nat} {q : Nat → Int32} {m n t c : Nat} {K : List Nat} (N : pg_n g n) (hn : n < m) (hK : ∀ x, x ∈ K → x < m) : ∀ x, x ∈ (lm_st g q (n :: K, t, c)).1 → x < m := by
  intro x hx
  obtain ⟨-, hp, h | h | h | h | h⟩ := N
  · rw [lm_leaf (by omega)] at hx; exact hK x hx
  · rw [lm_leaf (by omega)] at hx; exact hK x hx
  · obtain ⟨h0, h1, h2, -⟩ := h
    rw [lm_seq h0] at hx
    rcases List.mem_cons.mp hx with e | hx
    · omega
    · rcases List.mem_cons.mp hx with e | hx
      · omega
      · exact hK x hx
  · obtain ⟨h0, h1, h2, -⟩ := h
    by_cases z : q t = 0
    · rw [lm_if0 h0 z] at hx
      rcases List.mem_cons.mp hx with e | hx
      · omega
      · exact hK x hx
    · rw [lm_if1 h0 z] at hx
      rcases List.mem_cons.mp hx with e | hx
      · omega
      · exact hK x hx
  · obtain ⟨h0, h1, -⟩ := h
    by_cases z : g 3 n < g 4 n
    · unfold lm_st at hx
      dsimp only at hx
      rw [if_neg (by omega), if_neg (by omega), if_neg (by omega), if_pos z] at hx
      rcases List.mem_append.mp hx with hx | hx
      · have := List.eq_of_mem_replicate hx; omega
      · exact hK x hx
    · rw [lm_lp0 h0 z] at hx
      rcases List.mem_append.mp hx with hx | hx
      · have := List.eq_of_mem_replicate hx; omega
      · exact hK x hx
theorem lm_mems {g : Nat → Nat → Nat} {q : Nat → Int32} {m r : Nat} (T : pg_t g m) (hr : r < m) : ∀ j, ∀ x, x ∈ (lm_cf g q r j).1 → x < m := by
  intro j
  induction j with
  | zero => intro x hx; have := List.mem_singleton.mp hx; omega
  | succ j ih =>
    generalize e : lm_cf g q r j = y at ih
    obtain ⟨L, t, c⟩ := y
    show ∀ x, x ∈ (lm_st g q (lm_cf g q r j)).1 → x < m
    rw [e]
    cases L with
    | nil => exact ih
    | cons n K =>
      have hn : n < m := ih n List.mem_cons_self
      exact lm_mem (T n hn) hn fun x hx => ih x (List.mem_cons_of_mem _ hx)
theorem lm_anti {g : Nat → Nat → Nat} {q : Nat → Int32} {m r : Nat} (T : pg_t g m) (hr : r < m) {i : Nat} : ∀ j, i ≤ j → lm_V g q r j → (lm_cf g q r j).2.2 + lm_c g (lm_cf g q r j).1 ≤ (lm_cf g q r i).2.2 + lm_c g (lm_cf g q r i).1 := by
  intro j
  induction j with
  | zero => intro h _; have : i = 0 := by omega
            subst this; exact Nat.le_refl _
  | succ j ih =>
    intro h V
    rcases Nat.lt_or_ge i (j + 1) with h1 | h1
    · have a := ih (by omega) (fun a ha => V a (by omega))
      refine Nat.le_trans ?_ a
      have hm := lm_mems (q := q) T hr j
      have W := V j (by omega)
      show (lm_st g q (lm_cf g q r j)).2.2 + lm_c g (lm_st g q (lm_cf g q r j)).1 ≤ _
      generalize lm_cf g q r j = y at hm W
      obtain ⟨L, t, c⟩ := y
      cases L with
      | nil => exact Nat.le_refl _
      | cons n K => exact (lm_step (T n (hm n List.mem_cons_self)) (W n K t c rfl)).1
    · have : i = j + 1 := by omega
      subst this; exact Nat.le_refl _
theorem lm_up {g : Nat → Nat → Nat} {q : Nat → Int32} (x : List Nat × Nat × Nat) (h : x.2.1 < (lm_st g q x).2.1) : ∃ n K, x.1 = n :: K ∧ lm_ch g n := by
  obtain ⟨L, t, c⟩ := x
  cases L with
  | nil => dsimp only [lm_st] at h; omega
  | cons n K =>
    refine ⟨n, K, rfl, ?_⟩
    unfold lm_st at h
    dsimp only at h
    by_cases h1 : g 0 n ≤ 1
    · rw [if_pos h1] at h; dsimp only at h; omega
    · rw [if_neg h1] at h
      by_cases h2 : g 0 n = 2
      · rw [if_pos h2] at h; dsimp only at h; omega
      · rw [if_neg h2] at h
        by_cases h3 : g 0 n = 3
        · exact Or.inl h3
        · rw [if_neg h3] at h
          by_cases h4 : g 3 n < g 4 n
          · exact Or.inr ⟨by omega, h4⟩
          · rw [if_neg h4] at h; dsimp only at h; omega
theorem lm_vis {g : Nat → Nat → Nat} {q : Nat → Int32} {r s : Nat} : ∀ j, s < (lm_cf g q r j).2.1 → ∃ a, a < j ∧ ∃ n K c, lm_cf g q r a = (n :: K, s, c) ∧ lm_ch g n := by
  intro j
  induction j with
  | zero => intro h; exact absurd h (Nat.not_lt_zero _)
  | succ j ih =>
    intro h
    rcases Nat.lt_or_ge s (lm_cf g q r j).2.1 with h1 | h1
    · obtain ⟨a, ha, w⟩ := ih h1
      exact ⟨a, by omega, w⟩
    · have u := lm_t (g := g) (q := q) (lm_cf g q r j)
      have h' : s < (lm_st g q (lm_cf g q r j)).2.1 := h
      obtain ⟨n, K, e1, e2⟩ := lm_up (g := g) (q := q) (lm_cf g q r j) (by omega)
      refine ⟨j, by omega, n, K, (lm_cf g q r j).2.2, ?_, e2⟩
      have e3 : s = (lm_cf g q r j).2.1 := by omega
      rw [e3, ← e1]
theorem lm_nil {g : Nat → Nat → Nat} {q : Nat → Int32} {r i t c : Nat} (h : lm_cf g q r i = ([], t, c)) : ∀ d, lm_cf g q r (i + d) = ([], t, c) := by
  intro d
  induction d with
  | zero => exact h
  | succ d ih => show lm_st g q (lm_cf g q r (i + d)) = _
                 rw [ih]; rfl
def lm_pre (g : Nat → Nat → Nat) (q : Nat → Int32) (r kept R : Nat) : Prop :=
  (∀ a n K t c, lm_cf g q r a = (n :: K, t, c) → lm_ch g n → t < kept → lm_ok g q n t) ∧
  (∀ s, s < kept → ∃ a n K c, lm_cf g q r a = (n :: K, s, c) ∧ lm_ch g n) ∧
  (∃ a, R ≤ (lm_cf g q r a).2.2 ∧ (lm_cf g q r a).2.1 ≤ kept)
theorem lm_pre0 (g : Nat → Nat → Nat) (q : Nat → Int32) (r : Nat) : lm_pre g q r 0 0 :=
  ⟨fun _ _ _ _ _ _ _ h => absurd h (Nat.not_lt_zero _), fun _ h => absurd h (Nat.not_lt_zero _), 0, Nat.zero_le _, Nat.zero_le _⟩
theorem lm_done {g : Nat → Nat → Nat} {q p : Nat → Int32} {m r kept R i t c : Nat} (T : pg_t g m) (hr : r < m) (Pr : lm_pre g q r kept R) (hq : ∀ k, k < kept → q k = p k) (hi : lm_cf g p r i = ([], t, c)) (V : lm_V g p r i) : kept ≤ t ∧ R ≤ c ∧ c < g 5 r := by
  obtain ⟨-, P2, a, P3, P4⟩ := Pr
  refine ⟨?_, ?_, ?_⟩
  · rcases Nat.lt_or_ge t kept with z | z
    · exfalso
      obtain ⟨b, n, K, c', e, hc⟩ := P2 (kept - 1) (by omega)
      have e' : lm_cf g p r b = (n :: K, kept - 1, c') := by
        rw [← e]
        refine lm_eq b fun k hk => hq k ?_
        rw [e] at hk; dsimp only at hk; omega
      rcases Nat.lt_or_ge b i with y | y
      · have u1 : lm_cf g p r (b + 1) = lm_st g p (n :: K, kept - 1, c') := by rw [← e']; rfl
        have u2 := (lm_tmono (g := g) (q := p) (r := r) (show b + 1 ≤ i by omega)).1
        rw [hi, u1] at u2
        have u3 : kept - 1 < (lm_st g p (n :: K, kept - 1, c')).2.1 := by
          unfold lm_st
          dsimp only
          rcases hc with hc | ⟨hc, hl⟩
          · rw [if_neg (by omega), if_neg (by omega), if_pos hc]
            by_cases z0 : p (kept - 1) = 0
            · rw [if_pos z0]; dsimp only; omega
            · rw [if_neg z0]; dsimp only; omega
          · rw [if_neg (by omega), if_neg (by omega), if_neg (by omega), if_pos hl]; dsimp only; omega
        dsimp only at u2
        omega
      · have u := lm_nil hi (b - i)
        rw [show i + (b - i) = b by omega, e'] at u
        cases u
    · exact z
  · have e' : lm_cf g p r a = lm_cf g q r a := lm_eq a fun k hk => hq k (by omega)
    rw [← e'] at P3
    rcases Nat.lt_or_ge i a with y | y
    · have u := lm_nil hi (a - i)
      rw [show i + (a - i) = a by omega] at u
      rw [u] at P3; exact P3
    · have u := (lm_tmono (g := g) (q := p) (r := r) y).2
      rw [hi] at u
      exact Nat.le_trans P3 u
  · have u := lm_anti T hr (i := 0) i (by omega) V
    rw [hi] at u
    have e0 : lm_cf g p r 0 = ([r], 0, 0) := rfl
    rw [e0] at u
    dsimp only [lm_c] at u
    omega
theorem lm_inc {g : Nat → Nat → Nat} {p q : Nat → Int32} {n t c k : Nat} {K : List Nat} (N : pg_n g n) (hc : lm_ch g n) (h1 : p t = nI k) (h2 : q t = nI (k + 1)) (hl : g 3 n ≤ k) (hh : k < g 4 n) : (lm_st g q (n :: K, t, c)).2.2 = (lm_st g p (n :: K, t, c)).2.2 + lm_c g (lm_st g p (n :: K, t, c)).1 := by
  obtain ⟨-, hp, h | h | h | h | h⟩ := N
  · exfalso; unfold lm_ch at hc; omega
  · exfalso; unfold lm_ch at hc; omega
  · exfalso; unfold lm_ch at hc; omega
  · obtain ⟨h0, -, -, -, -, -, hg, -⟩ := h
    have hk : k = 0 := by omega
    subst hk
    rw [lm_if0 (q := p) h0 (by rw [h1]; rfl), lm_if1 (q := q) h0 (by rw [h2]; decide)]
    rfl
  · obtain ⟨h0, -, -, -, h4, -⟩ := h
    have z : g 3 n < g 4 n := by omega
    rw [lm_lp1 h0 z h1 (by omega), lm_lp1 h0 z h2 (by omega)]
    dsimp only
    rw [lm_c_rep, ps_next hl, Nat.add_mul]
    omega
theorem lm_next {g : Nat → Nat → Nat} {p q tp : Nat → Int32} {m r i t c s k : Nat} (T : pg_t g m) (hr : r < m) (hi : lm_cf g p r i = ([], t, c)) (V : lm_V g p r i)
    (hT : ∀ a, a < i → ∀ n K t c, lm_cf g p r a = (n :: K, t, c) → lm_ch g n → tp t = nI (g 4 n)) (hs : s < t) (h1 : p s = nI k) (h2 : q s = nI (k + 1)) (hk : k < 2 ^ 30) (hlt : p s < tp s) (hq : ∀ k, k < s → p k = q k) : lm_pre g q r (s + 1) (c + 1) := by
  have hs' : s < (lm_cf g p r i).2.1 := by rw [hi]; exact hs
  obtain ⟨a, ha, n, K, c', e, hc⟩ := lm_vis i hs'
  have same : ∀ b, (lm_cf g q r b).2.1 ≤ s → lm_cf g p r b = lm_cf g q r b := fun b hb => lm_eq b fun k hk => (hq k (by omega)).symm
  have same' : ∀ b, (lm_cf g p r b).2.1 ≤ s → lm_cf g q r b = lm_cf g p r b := fun b hb => lm_eq b fun k hk => hq k (by omega)
  have hn : n < m := lm_mems (q := p) T hr a n (by rw [e]; exact List.mem_cons_self)
  have key : ∀ b n' K' c'', lm_cf g p r b = (n' :: K', s, c'') → lm_ch g n' → b = a := by
    intro b n' K' c'' e2 hc2
    rcases Nat.lt_trichotomy b a with y | y | y
    · exfalso
      have u1 : lm_cf g p r (b + 1) = lm_st g p (n' :: K', s, c'') := by rw [← e2]; rfl
      have u2 := (lm_tmono (g := g) (q := p) (r := r) (show b + 1 ≤ a by omega)).1
      rw [e, u1] at u2
      have u3 : s < (lm_st g p (n' :: K', s, c'')).2.1 := by
        unfold lm_st
        dsimp only
        rcases hc2 with hc | ⟨hc, hl⟩
        · rw [if_neg (by omega), if_neg (by omega), if_pos hc]
          by_cases z0 : p s = 0
          · rw [if_pos z0]; dsimp only; omega
          · rw [if_neg z0]; dsimp only; omega
        · rw [if_neg (by omega), if_neg (by omega), if_neg (by omega), if_pos hl]; dsimp only; omega
      dsimp only at u2
      omega
    · exact y
    · exfalso
      have u1 : lm_cf g p r (a + 1) = lm_st g p (n :: K, s, c') := by rw [← e]; rfl
      have u2 := (lm_tmono (g := g) (q := p) (r := r) (show a + 1 ≤ b by omega)).1
      rw [e2, u1] at u2
      have u3 : s < (lm_st g p (n :: K, s, c')).2.1 := by
        unfold lm_st
        dsimp only
        rcases hc with hc | ⟨hc, hl⟩
        · rw [if_neg (by omega), if_neg (by omega), if_pos hc]
          by_cases z0 : p s = 0
          · rw [if_pos z0]; dsimp only; omega
          · rw [if_neg z0]; dsimp only; omega
        · rw [if_neg (by omega), if_neg (by omega), if_neg (by omega), if_pos hl]; dsimp only; omega
      dsimp only at u2
      omega
  have ok : g 3 n ≤ k ∧ k < g 4 n := by
    obtain ⟨k', e1, l1, l2⟩ := V a ha n K s c' e hc
    have h4 : g 4 n < 2 ^ 31 := by
      obtain ⟨-, -, h | h | h | h | h⟩ := T n hn <;> omega
    rw [h1, nI_eq (by omega) (by omega)] at e1
    subst e1
    have u := hT a ha n K s c' e hc
    rw [h1, u, nI_ltI (by omega) (by omega)] at hlt
    exact ⟨l1, hlt⟩
  refine ⟨?_, ?_, ?_⟩
  · intro b n' K' t' c'' e2 hc2 ht
    have e3 : lm_cf g p r b = (n' :: K', t', c'') := by
      rw [← e2]; exact same b (by rw [e2]; dsimp only; omega)
    rcases Nat.lt_or_ge t' s with y | y
    · have hb : b < i := by
        rcases Nat.lt_or_ge b i with z | z
        · exact z
        · have u := lm_nil hi (b - i)
          rw [show i + (b - i) = b by omega, e3] at u
          cases u
      obtain ⟨k', w1, w2⟩ := V b hb n' K' t' c'' e3 hc2
      exact ⟨k', by rw [← hq t' y]; exact w1, w2⟩
    · have ht' : t' = s := by omega
      subst ht'
      have hb := key b n' K' c'' e3 hc2
      subst hb
      rw [e] at e3
      cases e3
      exact ⟨k + 1, h2, by omega, by omega⟩
  · intro s' hs2
    rcases Nat.lt_or_ge s' s with y | y
    · obtain ⟨b, hb, n', K', c'', e2, hc2⟩ := lm_vis (g := g) (q := p) (r := r) (s := s') i (by rw [hi]; dsimp only; omega)
      exact ⟨b, n', K', c'', by rw [← e2]; exact same' b (by rw [e2]; dsimp only; omega), hc2⟩
    · have : s' = s := by omega
      subst this
      exact ⟨a, n, K, c', by rw [← e]; exact same' a (by rw [e]; exact Nat.le_refl _), hc⟩
  · refine ⟨a + 1, ?_, ?_⟩
    · have e2 : lm_cf g q r (a + 1) = lm_st g q (n :: K, s, c') := by
        show lm_st g q (lm_cf g q r a) = _
        rw [same' a (by rw [e]; exact Nat.le_refl _), e]
      have e3 : lm_cf g p r (a + 1) = lm_st g p (n :: K, s, c') := by
        show lm_st g p (lm_cf g p r a) = _
        rw [e]
      rw [e2, lm_inc (T n hn) hc h1 h2 ok.1 ok.2, ← e3]
      have u := lm_anti T hr (i := a + 1) i (by omega) V
      rw [hi] at u
      dsimp only [lm_c] at u
      omega
    · have e2 : lm_cf g q r (a + 1) = lm_st g q (n :: K, s, c') := by
        show lm_st g q (lm_cf g q r a) = _
        rw [same' a (by rw [e]; exact Nat.le_refl _), e]
      rw [e2]
      have u := lm_t (g := g) (q := q) (n :: K, s, c')
      exact u.2.1
end
section
/-! Y's pile of statements to do, and X's place in the program, as a list of pending statements -/
def td_L (todo : Nat → Int32) : List Nat → Prop
  | [] => True
  | n :: K => todo K.length = nI n ∧ td_L todo K
theorem td_upd {todo todo' : Nat → Int32} : ∀ {K : List Nat}, td_L todo K → (∀ i, i < K.length → todo' i = todo i) → td_L todo' K
  | [], _, _ => trivial
  | n :: K, h, e => ⟨by rw [e K.length (by simp)]; exact h.1, td_upd h.2 fun i hi => e i (by simp only [List.length_cons]; omega)⟩
theorem td_push {todo : Nat → Int32} {K : List Nat} {n i : Nat} {x : Int32} (h : td_L todo K) (hi : i = K.length) (hx : x = nI n) : td_L (upd todo i x) (n :: K) := by
  subst hi hx
  refine ⟨?_, td_upd h fun i hi => ?_⟩
  · show (if K.length = K.length then nI n else todo K.length) = nI n
    rw [if_pos rfl]
  · show (if i = K.length then nI n else todo i) = todo i
    rw [if_neg (by omega)]
def ch_x (g : Nat → Nat → Nat) (root : Nat) (rd : Nat → Int32) : Nat → Nat → List Nat → Prop
  | 0, n, K => n = root ∧ K = []
  | j + 1, n, K => ∃ p K', n < p ∧ p ≤ root ∧ ch_x g root rd j p K' ∧
      ((g 0 p = 2 ∧ n = g 1 p ∧ K = g 2 p :: K') ∨ (g 0 p = 2 ∧ n = g 2 p ∧ K = K') ∨ (g 0 p = 3 ∧ (n = g 1 p ∨ n = g 2 p) ∧ K = K') ∨
       (g 0 p = 4 ∧ n = g 1 p ∧ ∃ k, k ≤ 3 ∧ rd p = nI k ∧ K = List.replicate k (g 1 p) ++ K'))
theorem ch_le {g : Nat → Nat → Nat} {root : Nat} {rd : Nat → Int32} : ∀ {j n K}, ch_x g root rd j n K → n ≤ root ∧ K.length ≤ 3 * (root - n)
  | 0, n, K, h => by
    obtain ⟨h1, h2⟩ := h
    subst h1 h2
    exact ⟨Nat.le_refl _, by simp⟩
  | j + 1, n, K, h => by
    obtain ⟨p, K', h1, h2, h3, h4⟩ := h
    have ih := (ch_le h3).2
    refine ⟨by omega, ?_⟩
    rcases h4 with ⟨-, -, e⟩ | ⟨-, -, e⟩ | ⟨-, -, e⟩ | ⟨-, -, k, hk, -, e⟩
    · subst e; simp only [List.length_cons]; omega
    · subst e; omega
    · subst e; omega
    · subst e; simp only [List.length_append, List.length_replicate]; omega
theorem ch_upd {g : Nat → Nat → Nat} {root : Nat} {rd rd' : Nat → Int32} : ∀ {j n K}, ch_x g root rd j n K → (∀ p, n < p → rd' p = rd p) → ch_x g root rd' j n K
  | 0, n, K, h, _ => h
  | j + 1, n, K, h, e => by
    obtain ⟨p, K', h1, h2, h3, h4⟩ := h
    refine ⟨p, K', h1, h2, ch_upd h3 fun x hx => e x (by omega), ?_⟩
    rw [e p h1]
    exact h4
/-! the cache: X's ages against Y's rows -/
def cr_R (w s : Nat) (ag ce : Nat → Int32) : Prop :=
  (∀ m, m < 12 → ∃ a, a ≤ w ∧ ag m = nI a ∧ ∀ p, p < w → (ce (4 * (m % s) + p) = nI m ↔ p = a)) ∧
  (∀ b p, b < 4 → p < 4 → ce (4 * b + p) = -1 ∨ (p < w ∧ ∃ m, m < 12 ∧ m % s = b ∧ ce (4 * b + p) = nI m))
theorem cr_m1 {m : Nat} (h : m < 12) : (-1 : Int32) ≠ nI m := by
  intro e
  have := congrArg Int32.toInt e
  rw [nI_toInt (by omega)] at this
  have h2 : (-1 : Int32).toInt = -1 := by decide
  omega
theorem cr_0 {w s : Nat} {ag ce : Nat → Int32} (ha : ∀ m, m < 12 → ag m = nI w) (hc : ∀ i, i < 16 → ce i = -1) (hs : 0 < s) (hs4 : s ≤ 4) (hw : w ≤ 4) : cr_R w s ag ce := by
  refine ⟨fun m hm => ⟨w, Nat.le_refl _, ha m hm, fun p hp => ?_⟩, fun b p hb hp => Or.inl (hc _ (by omega))⟩
  have := Nat.mod_lt m hs
  rw [hc _ (by omega)]
  exact ⟨fun e => absurd e (cr_m1 hm), fun e => by omega⟩
/-- an access to line m: the ages of X, the rows of Y -/
theorem cr_acc {w s m a po : Nat} {ag ce ag' ce' : Nat → Int32} (R : cr_R w s ag ce) (hw0 : 0 < w) (hw : w ≤ 4) (hs0 : 0 < s) (hs : s ≤ 4) (hm : m < 12)
    (ha : ag m = nI a) (haw : a ≤ w)
    (hag : ∀ l b, l < 12 → ag l = nI b → b ≤ w → ag' l = nI (if l = m then 0 else if l % s = m % s ∧ b < a then b + 1 else b))
    (hat : po = if a < w then a else w - 1)
    (hce : ∀ b p, b < 4 → p < 4 → ce' (4 * b + p) = if b = m % s ∧ p = 0 then nI m else if b = m % s ∧ p ≤ po then ce (4 * b + (p - 1)) else ce (4 * b + p)) : cr_R w s ag' ce' := by
  obtain ⟨R1, R2⟩ := R
  have hb := Nat.mod_lt m hs0
  have inj : ∀ x y, x < 12 → y < 12 → nI x = nI y → x = y := fun x y hx hy e => (nI_eq (by omega) (by omega)).mp e
  have hA : ∀ p, p < w → (ce (4 * (m % s) + p) = nI m ↔ p = a) := by
    obtain ⟨a2, h1, h2, h3⟩ := R1 m hm
    have : a2 = a := by rw [ha, nI_eq (by omega) (by omega)] at h2; exact h2.symm
    subst this; exact h3
  have hat1 : po ≤ a := by rw [hat]; split <;> omega
  have hat2 : po < w := by rw [hat]; split <;> omega
  have hat3 : po < a → po = w - 1 := by rw [hat]; split <;> omega
  refine ⟨fun l hl => ?_, fun b p hb4 hp => ?_⟩
  · obtain ⟨b, hb1, hb2, hb3⟩ := R1 l hl
    have hlb := Nat.mod_lt l hs0
    refine ⟨_, ?_, hag l b hl hb2 hb1, fun p hp => ?_⟩
    · by_cases e : l = m
      · rw [if_pos e]; omega
      · rw [if_neg e]; split <;> omega
    · rw [hce (l % s) p (by omega) (by omega)]
      by_cases e : l = m
      · subst e
        rw [if_pos rfl]
        by_cases p0 : p = 0
        · rw [if_pos ⟨rfl, p0⟩]; exact ⟨fun _ => p0, fun _ => rfl⟩
        · rw [if_neg (fun z => p0 z.2)]
          by_cases p1 : p ≤ po
          · rw [if_pos ⟨rfl, p1⟩, hA (p - 1) (by omega)]; omega
          · rw [if_neg (fun z => p1 z.2), hA p hp]; omega
      · rw [if_neg e]
        by_cases es : l % s = m % s
        · have noeq : ∀ x, x < w → b = x → a = x → False := by
            intro x hx hbx hax
            have u1 := (hb3 x hx).mpr hbx.symm
            have u2 := (hA x hx).mpr hax.symm
            rw [es] at u1
            exact e (inj l m hl hm (u1.symm.trans u2))
          by_cases p0 : p = 0
          · rw [if_pos ⟨es, p0⟩]
            refine ⟨fun z => absurd (inj m l hm hl z).symm e, fun z => ?_⟩
            exfalso
            by_cases ba : b < a
            · rw [if_pos ⟨es, ba⟩] at z; omega
            · rw [if_neg (fun z => ba z.2)] at z
              exact noeq 0 hw0 (by omega) (by omega)
          · rw [if_neg (fun z => p0 z.2)]
            by_cases p1 : p ≤ po
            · rw [if_pos ⟨es, p1⟩, hb3 (p - 1) (by omega)]
              by_cases ba : b < a
              · rw [if_pos ⟨es, ba⟩]; omega
              · rw [if_neg (fun z => ba z.2)]
                refine ⟨fun z => by omega, fun z => ?_⟩
                exfalso
                exact noeq p hp z.symm (by omega)
            · rw [if_neg (fun z => p1 z.2), hb3 p hp]
              by_cases ba : b < a
              · rw [if_pos ⟨es, ba⟩]; omega
              · rw [if_neg (fun z => ba z.2)]
        · rw [if_neg (fun z => es z.1), if_neg (fun z => es z.1), if_neg (fun z => es z.1), hb3 p hp]
  · rw [hce b p hb4 hp]
    by_cases eb : b = m % s
    · by_cases p0 : p = 0
      · rw [if_pos ⟨eb, p0⟩]
        exact Or.inr ⟨by omega, m, hm, eb.symm, rfl⟩
      · rw [if_neg (fun z => p0 z.2)]
        by_cases p1 : p ≤ po
        · rw [if_pos ⟨eb, p1⟩]
          rcases R2 b (p - 1) hb4 (by omega) with z | ⟨z1, x, z2, z3, z4⟩
          · exact Or.inl z
          · exact Or.inr ⟨by omega, x, z2, z3, z4⟩
        · rw [if_neg (fun z => p1 z.2)]; exact R2 b p hb4 hp
    · rw [if_neg (fun z => eb z.1), if_neg (fun z => eb z.1)]; exact R2 b p hb4 hp
/-- ages and rows determine each other -/
theorem cr_ages {w s : Nat} {ag ag2 ce ce2 : Nat → Int32} (hw : w ≤ 4) (hs0 : 0 < s) (hs : s ≤ 4) (R : cr_R w s ag ce) (R2 : cr_R w s ag2 ce2) (h : ∀ i, i < 16 → ce i = ce2 i) : ∀ m, m < 12 → ag m = ag2 m := by
  intro m hm
  obtain ⟨a, a1, a2, a3⟩ := R.1 m hm
  obtain ⟨b, b1, b2, b3⟩ := R2.1 m hm
  have := Nat.mod_lt m hs0
  have e : ∀ p, p < w → (p = a ↔ p = b) := fun p hp => by rw [← a3 p hp, ← b3 p hp, h _ (by omega)]
  have : a = b := by
    rcases Nat.lt_or_ge a w with z | z
    · exact (e a z).mp rfl
    · rcases Nat.lt_or_ge b w with y | y
      · exact ((e b y).mpr rfl).symm
      · omega
  rw [a2, b2, this]
theorem cr_cells1 {w s : Nat} {ag ag2 ce ce2 : Nat → Int32} (hw : w ≤ 4) (R : cr_R w s ag ce) (R2 : cr_R w s ag2 ce2) (h : ∀ m, m < 12 → ag m = ag2 m) {b p m : Nat} (hp : p < w) (hm : m < 12) (hs : m % s = b) (e : ce (4 * b + p) = nI m) : ce2 (4 * b + p) = nI m := by
  obtain ⟨a, a1, a2, a3⟩ := R.1 m hm
  obtain ⟨b', b1, b2, b3⟩ := R2.1 m hm
  rw [h m hm, b2, nI_eq (by omega) (by omega)] at a2
  subst hs
  exact (b3 p hp).mpr (((a3 p hp).mp e).trans a2.symm)
theorem cr_cells {w s : Nat} {ag ag2 ce ce2 : Nat → Int32} (hw : w ≤ 4) (R : cr_R w s ag ce) (R2 : cr_R w s ag2 ce2) (h : ∀ m, m < 12 → ag m = ag2 m) : ∀ i, i < 16 → ce i = ce2 i := by
  intro i hi
  have e : i = 4 * (i / 4) + i % 4 := by omega
  rw [e]
  rcases R.2 (i / 4) (i % 4) (by omega) (by omega) with z | ⟨z1, m, z2, z3, z4⟩
  · rcases R2.2 (i / 4) (i % 4) (by omega) (by omega) with y | ⟨y1, m, y2, y3, y4⟩
    · rw [z, y]
    · rw [y4]; exact cr_cells1 hw R2 R (fun m hm => (h m hm).symm) y1 y2 y3 y4
  · rw [z4]; exact (cr_cells1 hw R R2 h z1 z2 z3 z4).symm
/-! codes -/
def cd_c (b : Nat) (f : Nat → Nat) : Nat → Nat
  | 0 => 0
  | k + 1 => cd_c b f k * b + f k
theorem cd_two {x y x' y' b : Nat} (hy : y < b) (hy' : y' < b) (h : x * b + y = x' * b + y') : x = x' ∧ y = y' := by
  have h1 : (x * b + y) / b = x := by
    rw [Nat.mul_comm, Nat.mul_add_div (by omega), Nat.div_eq_of_lt hy]; omega
  have h2 : (x' * b + y') / b = x' := by
    rw [Nat.mul_comm, Nat.mul_add_div (by omega), Nat.div_eq_of_lt hy']; omega
  have e : x = x' := by rw [← h1, h, h2]
  subst e
  exact ⟨rfl, by omega⟩
theorem cd_inj {b : Nat} {f f' : Nat → Nat} : ∀ k, (∀ i, i < k → f i < b) → (∀ i, i < k → f' i < b) → cd_c b f k = cd_c b f' k → ∀ i, i < k → f i = f' i := by
  intro k
  induction k with
  | zero => intro _ _ _ i hi; omega
  | succ k ih =>
    intro h1 h2 e i hi
    have u := cd_two (h1 k (by omega)) (h2 k (by omega)) e
    rcases Nat.lt_or_ge i k with z | z
    · exact ih (fun i hi => h1 i (by omega)) (fun i hi => h2 i (by omega)) u.1 i z
    · have : i = k := by omega
      subst this; exact u.2
theorem cd_lt {b : Nat} {f : Nat → Nat} : ∀ k, (∀ i, i < k → f i < b) → cd_c b f k < b ^ k := by
  intro k
  induction k with
  | zero => intro _; exact Nat.one_pos
  | succ k ih =>
    intro h
    have a := ih fun i hi => h i (by omega)
    have c := h k (by omega)
    rw [Nat.pow_succ]
    show cd_c b f k * b + f k < _
    have : (cd_c b f k + 1) * b ≤ b ^ k * b := Nat.mul_le_mul_right _ a
    rw [Nat.add_mul] at this
    omega
theorem cd_eq {b : Nat} {f f' : Nat → Nat} : ∀ k, (∀ i, i < k → f i = f' i) → cd_c b f k = cd_c b f' k := by
  intro k
  induction k with
  | zero => intro _; rfl
  | succ k ih =>
    intro h
    show cd_c b f k * b + f k = cd_c b f' k * b + f' k
    rw [ih fun i hi => h i (by omega), h k (by omega)]
end
section
/-! measures: cut at 1000 -/
theorem mn_mul {a b : Nat} (ha : 1 ≤ a) (hb : 1 ≤ b) : min (min a 1000 * min b 1000) 1000 = min (a * b) 1000 := by
  rcases Nat.lt_or_ge a 1000 with h1 | h1
  · rcases Nat.lt_or_ge b 1000 with h2 | h2
    · rw [Nat.min_eq_left (Nat.le_of_lt h1), Nat.min_eq_left (Nat.le_of_lt h2)]
    · rw [Nat.min_eq_right h2, Nat.min_eq_left (Nat.le_of_lt h1)]
      have e1 : 1 * 1000 ≤ a * 1000 := Nat.mul_le_mul_right _ ha
      have e2 : 1 * 1000 ≤ a * b := Nat.mul_le_mul ha h2
      rw [Nat.min_eq_right (by omega), Nat.min_eq_right (by omega)]
  · rw [Nat.min_eq_right h1]
    have e0 : 1 ≤ min b 1000 := by omega
    have e1 : 1000 * 1 ≤ 1000 * min b 1000 := Nat.mul_le_mul_left _ e0
    have e2 : 1000 * 1 ≤ a * b := Nat.mul_le_mul h1 hb
    rw [Nat.min_eq_right (by omega), Nat.min_eq_right (by omega)]
theorem mn_pow {x k : Nat} (hx : 1 ≤ x) : min (min (x ^ k) 1000 * min x 1000) 1000 = min (x ^ (k + 1)) 1000 := by
  rw [Nat.pow_succ]
  exact mn_mul (Nat.one_le_pow _ _ (by omega)) hx
theorem mn_len {h l : Nat} (hh : h ≤ 4) : min (h * (1 + min l 1000)) 1000 = min (h * (1 + l)) 1000 := by
  have : h = 0 ∨ h = 1 ∨ h = 2 ∨ h = 3 ∨ h = 4 := by omega
  rcases this with e | e | e | e | e <;> subst e <;> omega
theorem mn_cho {h l o : Nat} (hh : h ≤ 4) : min (o + h * min l 1000) 1000 = min (o + h * l) 1000 := by
  have : h = 0 ∨ h = 1 ∨ h = 2 ∨ h = 3 ∨ h = 4 := by omega
  rcases this with e | e | e | e | e <;> subst e <;> omega
/-- X's total of the cut powers -/
def mn_tt (x lo : Nat) : Nat → Nat
  | 0 => 0
  | k + 1 => mn_tt x lo k + (if lo ≤ k then min (x ^ k) 1000 else 0)
theorem mn_tt_le (x lo : Nat) : ∀ k, mn_tt x lo k ≤ 1000 * k := by
  intro k
  induction k with
  | zero => exact Nat.le_refl _
  | succ k ih =>
    show mn_tt x lo k + (if lo ≤ k then min (x ^ k) 1000 else 0) ≤ _
    split <;> omega
theorem mn_tt_eq (x lo : Nat) : ∀ k, min (mn_tt x lo k) 1000 = min (ps_s x lo k) 1000 := by
  intro k
  induction k with
  | zero => rfl
  | succ k ih =>
    show min (mn_tt x lo k + (if lo ≤ k then min (x ^ k) 1000 else 0)) 1000 = min (ps_s x lo k + (if lo ≤ k then x ^ k else 0)) 1000
    split
    · generalize x ^ k = y
      omega
    · omega
theorem mn_ps {x lo k : Nat} : min (min (ps_s x lo k) 1000 + min (x ^ k) 1000) 1000 = min (ps_s x lo k + x ^ k) 1000 := by
  generalize x ^ k = y
  omega
end
section
/-! an array that a loop has gone through up to i -/
theorem us_s {f : Nat → Int32} {k : Nat} {x : Int32} : upd f k x k = x := by
  show (if k = k then x else f k) = x
  rw [if_pos rfl]
theorem us_n {f : Nat → Int32} {k j : Nat} {x : Int32} (h : j ≠ k) : upd f k x j = f j := by
  show (if j = k then x else f j) = f j
  rw [if_neg h]
def sw_f {α : Type} (new old : Nat → α) (i : Nat) : Nat → α := fun j => if j < i then new j else old j
theorem sw_0 {α : Type} (new old : Nat → α) : sw_f new old 0 = old := by
  funext j
  show (if j < 0 then new j else old j) = old j
  rw [if_neg (Nat.not_lt_zero _)]
theorem sw_at {α : Type} (new old : Nat → α) (i : Nat) : sw_f new old i i = old i := by
  show (if i < i then new i else old i) = old i
  rw [if_neg (Nat.lt_irrefl _)]
theorem sw_lt {α : Type} {new old : Nat → α} {i j : Nat} (h : j < i) : sw_f new old i j = new j := by
  show (if j < i then new j else old j) = new j
  rw [if_pos h]
theorem sw_ge {α : Type} {new old : Nat → α} {i j : Nat} (h : i ≤ j) : sw_f new old i j = old j := by
  show (if j < i then new j else old j) = old j
  rw [if_neg (by omega)]
theorem sw_u {new old : Nat → Int32} {i : Nat} {x : Int32} (hx : x = new i) : upd (sw_f new old i) i x = sw_f new old (i + 1) := by
  funext j
  show (if j = i then x else if j < i then new j else old j) = if j < i + 1 then new j else old j
  by_cases h : j = i
  · subst h; rw [if_pos rfl, if_pos (by omega), hx]
  · rw [if_neg h]
    by_cases h2 : j < i
    · rw [if_pos h2, if_pos (by omega)]
    · rw [if_neg h2, if_neg (by omega)]
theorem sw_k {α : Type} {new old : Nat → α} {i : Nat} (hx : new i = old i) : sw_f new old i = sw_f new old (i + 1) := by
  funext j
  show (if j < i then new j else old j) = if j < i + 1 then new j else old j
  by_cases h : j = i
  · subst h; rw [if_neg (by omega), if_pos (by omega), hx]
  · by_cases h2 : j < i
    · rw [if_pos h2, if_pos (by omega)]
    · rw [if_neg h2, if_neg (by omega)]
/-- an array with a row of it, beginning at b, gone through up to i -/
def sr_f (b : Nat) (new old : Nat → Int32) (i : Nat) : Nat → Int32 := fun j => if b ≤ j ∧ j < b + i then new (j - b) else old j
theorem sr_0 (b : Nat) (new old : Nat → Int32) : sr_f b new old 0 = old := by
  funext j
  show (if b ≤ j ∧ j < b + 0 then new (j - b) else old j) = old j
  rw [if_neg (by omega)]
theorem sr_at (b : Nat) (new old : Nat → Int32) (i : Nat) : sr_f b new old i (b + i) = old (b + i) := by
  show (if b ≤ b + i ∧ b + i < b + i then new (b + i - b) else old (b + i)) = old (b + i)
  rw [if_neg (by omega)]
theorem sr_in {b : Nat} {new old : Nat → Int32} {i j : Nat} (h : j < i) : sr_f b new old i (b + j) = new j := by
  show (if b ≤ b + j ∧ b + j < b + i then new (b + j - b) else old (b + j)) = new j
  rw [if_pos (by omega), Nat.add_sub_cancel_left]
theorem sr_out {b : Nat} {new old : Nat → Int32} {i j : Nat} (h : j < b ∨ b + i ≤ j) : sr_f b new old i j = old j := by
  show (if b ≤ j ∧ j < b + i then new (j - b) else old j) = old j
  rw [if_neg (by omega)]
theorem sr_u {b : Nat} {new old : Nat → Int32} {i : Nat} {x : Int32} (hx : x = new i) : upd (sr_f b new old i) (b + i) x = sr_f b new old (i + 1) := by
  funext j
  show (if j = b + i then x else if b ≤ j ∧ j < b + i then new (j - b) else old j) = if b ≤ j ∧ j < b + (i + 1) then new (j - b) else old j
  by_cases h : j = b + i
  · subst h; rw [if_pos rfl, if_pos (by omega), hx, Nat.add_sub_cancel_left]
  · rw [if_neg h]
    by_cases h2 : b ≤ j ∧ j < b + i
    · rw [if_pos h2, if_pos (by omega)]
    · rw [if_neg h2, if_neg (by omega)]
theorem sr_k {b : Nat} {new old : Nat → Int32} {i : Nat} (hx : new i = old (b + i)) : sr_f b new old i = sr_f b new old (i + 1) := by
  funext j
  show (if b ≤ j ∧ j < b + i then new (j - b) else old j) = if b ≤ j ∧ j < b + (i + 1) then new (j - b) else old j
  by_cases h : j = b + i
  · subst h; rw [if_neg (by omega), if_pos (by omega), Nat.add_sub_cancel_left, hx]
  · by_cases h2 : b ≤ j ∧ j < b + i
    · rw [if_pos h2, if_pos (by omega)]
    · rw [if_neg h2, if_neg (by omega)]
/-- the ages after an access to line m -/
def ac_f (s m : Nat) (age : Int32) (ag : Nat → Int32) : Nat → Int32 := fun l => if l % s = m % s ∧ ag l < age then ag l + 1 else ag l
def ac_a (s m : Nat) (ag : Nat → Int32) : Nat → Int32 := upd (sw_f (ac_f s m (ag m) ag) ag 12) m 0
theorem ac_val {s m a w : Nat} {ag : Nat → Int32} (hw : w ≤ 4) (ha : ag m = nI a) (haw : a ≤ w) : ∀ l b, l < 12 → ag l = nI b → b ≤ w → ac_a s m ag l = nI (if l = m then 0 else if l % s = m % s ∧ b < a then b + 1 else b) := by
  intro l b hl hb hbw
  unfold ac_a
  by_cases e : l = m
  · subst e; rw [us_s, if_pos rfl]; rfl
  · rw [us_n e, if_neg e, sw_lt hl]
    unfold ac_f
    rw [hb, ha]
    by_cases c : l % s = m % s ∧ b < a
    · rw [if_pos c, if_pos ⟨c.1, (nI_ltI (by omega) (by omega)).mpr c.2⟩, nI_1]
    · rw [if_neg c, if_neg (fun z => c ⟨z.1, (nI_ltI (by omega) (by omega)).mp z.2⟩)]
theorem ac_big {s m : Nat} {ag : Nat → Int32} {l : Nat} (hm : m < 12) (hl : 12 ≤ l) : ac_a s m ag l = ag l := by
  unfold ac_a
  rw [us_n (by omega), sw_ge hl]
def ag_ok (w : Nat) (ag : Nat → Int32) : Prop := ∀ m, m < 12 → ∃ a, a ≤ w ∧ ag m = nI a
theorem ac_ok {s m w : Nat} {ag : Nat → Int32} (hw : w ≤ 4) (hm : m < 12) (h : ag_ok w ag) : ag_ok w (ac_a s m ag) := by
  intro l hl
  obtain ⟨a, a1, a2⟩ := h m hm
  obtain ⟨b, b1, b2⟩ := h l hl
  refine ⟨_, ?_, ac_val hw a2 a1 l b hl b2 b1⟩
  by_cases e : l = m
  · rw [if_pos e]; omega
  · rw [if_neg e]; split <;> omega
theorem ac_eq {s m : Nat} {ag ag' : Nat → Int32} (hm : m < 12) (h : ∀ l, l < 12 → ag l = ag' l) : ∀ l, l < 12 → ac_a s m ag l = ac_a s m ag' l := by
  intro l hl
  unfold ac_a
  by_cases e : l = m
  · subst e; rw [us_s, us_s]
  · rw [us_n e, us_n e, sw_lt hl, sw_lt hl]
    unfold ac_f
    rw [h l hl, h m hm]
/-! the frames of Y's walk over the tables, with X's rows -/
def fr_z (be : Nat → Int32) (p : Nat) : Prop := ∀ i, i < 13 → be (p * 13 + i) = 0
def fr_r (w : Nat) (be gr : Nat → Int32) (p j : Nat) : Prop := ∀ m, m < 12 → be (p * 13 + m) = gr (12 * j + m) ∧ ∃ a, a ≤ w ∧ gr (12 * j + m) = nI a
def fr_c (g : Nat → Nat → Nat) (root w st : Nat) (rd bf be nd ph su sv gr : Nat → Int32) : Nat → Nat → Nat → Nat → Prop
  | 0, n, bs, mm => n = root ∧ bs = 0 ∧ mm = 0
  | j + 1, n, bs, mm => ∃ p bs' mm', n < p ∧ p ≤ root ∧ fr_c g root w st rd bf be nd ph su sv gr j p bs' mm' ∧ nd j = nI p ∧ bs' ≤ bs ∧
    ((g 0 p = 2 ∧ n = g 1 p ∧ ph j = 1 ∧ bs = bs' ∧ mm = g 8 (g 2 p) + mm') ∨
     (g 0 p = 2 ∧ n = g 2 p ∧ ph j = 2 ∧ (∃ s, su j = nI s ∧ bs = bs' + s) ∧ mm = mm') ∨
     (g 0 p = 3 ∧ n = g 1 p ∧ ph j = 1 ∧ bs = bs' ∧ mm = g 8 (g 2 p) + mm' ∧ fr_r w bf sv p j ∧ bf (p * 13 + 12) = nI bs' ∧ fr_z be p) ∨
     (g 0 p = 3 ∧ n = g 2 p ∧ ph j = 2 ∧ bs = bs' ∧ mm = mm' ∧ (∃ s, su j = nI s ∧ be (p * 13 + 12) = nI (bs' + s) ∧ bs' + s ≤ 50 * st) ∧ fr_r w be gr p j) ∨
     (g 0 p = 4 ∧ n = g 1 p ∧ ∃ i s, 1 ≤ i ∧ i ≤ g 4 p ∧ rd p = nI i ∧ ph j = nI i ∧ su j = nI s ∧ bs = bs' + s ∧ mm = (g 4 p - i) * g 8 (g 1 p) + mm' ∧
       ((g 3 p < i ∧ fr_r w be gr p j ∧ ∃ e, e ≤ bs ∧ be (p * 13 + 12) = nI e) ∨ (i ≤ g 3 p ∧ fr_z be p))))
theorem fr_le {g : Nat → Nat → Nat} {root w st : Nat} {rd bf be nd ph su sv gr : Nat → Int32} : ∀ {j n bs mm}, fr_c g root w st rd bf be nd ph su sv gr j n bs mm → n + j ≤ root
  | 0, n, bs, mm, h => by obtain ⟨h, -⟩ := h; omega
  | j + 1, n, bs, mm, h => by
    obtain ⟨p, bs', mm', h1, h2, h3, -⟩ := h
    have := fr_le h3
    omega
theorem fr_upd {g : Nat → Nat → Nat} {root w st st' : Nat} {rd bf be nd ph su sv gr rd' bf' be' nd' ph' su' sv' gr' : Nat → Int32} (hst : st ≤ st') : ∀ {j n bs mm}, fr_c g root w st rd bf be nd ph su sv gr j n bs mm →
    (∀ p, n < p → rd' p = rd p) → (∀ x, (n + 1) * 13 ≤ x → bf' x = bf x ∧ be' x = be x) → (∀ i, i < j → nd' i = nd i ∧ ph' i = ph i ∧ su' i = su i) → (∀ x, x < 12 * j → sv' x = sv x ∧ gr' x = gr x) →
    fr_c g root w st' rd' bf' be' nd' ph' su' sv' gr' j n bs mm
  | 0, n, bs, mm, h, _, _, _, _ => h
  | j + 1, n, bs, mm, h, e1, e2, e3, e4 => by
    obtain ⟨p, bs', mm', h1, h2, h3, h4, h5, h6⟩ := h
    have k2 : ∀ x, bf' (p * 13 + x) = bf (p * 13 + x) ∧ be' (p * 13 + x) = be (p * 13 + x) := fun x => e2 _ (by omega)
    have k4 : ∀ x, x < 12 → sv' (12 * j + x) = sv (12 * j + x) ∧ gr' (12 * j + x) = gr (12 * j + x) := fun x hx => e4 _ (by omega)
    have kz : fr_z be p → fr_z be' p := fun z i hi => by rw [(k2 i).2]; exact z i hi
    have kr : fr_r w be gr p j → fr_r w be' gr' p j := fun z m hm => by rw [(k2 m).2, (k4 m hm).2]; exact z m hm
    have ks : fr_r w bf sv p j → fr_r w bf' sv' p j := fun z m hm => by rw [(k2 m).1, (k4 m hm).1]; exact z m hm
    refine ⟨p, bs', mm', h1, h2, fr_upd hst h3 (fun x hx => e1 x (by omega)) (fun x hx => e2 x (by omega)) (fun i hi => e3 i (by omega)) (fun x hx => e4 x (by omega)), by rw [(e3 j (by omega)).1]; exact h4, h5, ?_⟩
    obtain ⟨f1, f2, f3⟩ := e3 j (by omega)
    rw [f2, f3, e1 p h1, (k2 12).1, (k2 12).2]
    rcases h6 with h | h | h | h | h
    · exact Or.inl h
    · exact Or.inr (Or.inl h)
    · obtain ⟨a1, a2, a3, a4, a5, a6, a7, a8⟩ := h
      exact Or.inr (Or.inr (Or.inl ⟨a1, a2, a3, a4, a5, ks a6, a7, kz a8⟩))
    · obtain ⟨a1, a2, a3, a4, a5, ⟨s, b1, b2, b3⟩, a7⟩ := h
      exact Or.inr (Or.inr (Or.inr (Or.inl ⟨a1, a2, a3, a4, a5, ⟨s, b1, b2, by omega⟩, kr a7⟩)))
    · obtain ⟨a1, a2, i, s, b1, b2, b3, b4, b5, b6, b7, b8⟩ := h
      refine Or.inr (Or.inr (Or.inr (Or.inr ⟨a1, a2, i, s, b1, b2, b3, b4, b5, b6, b7, ?_⟩)))
      rcases b8 with ⟨c1, c2, c3⟩ | ⟨c1, c2⟩
      · exact Or.inl ⟨c1, kr c2, c3⟩
      · exact Or.inr ⟨c1, kz c2⟩
end
section
/-! the table of statements on both sides -/
def xt_n (g : Nat → Nat → Nat) (ki fi se lo hi pa : Nat → Int32) (n : Nat) : Prop :=
  ki n = nI (g 0 n) ∧ fi n = nI (g 1 n) ∧ lo n = nI (g 3 n) ∧ hi n = nI (g 4 n) ∧ (2 ≤ g 0 n → pa (g 1 n) = nI n) ∧ (g 0 n = 2 ∨ g 0 n = 3 → se n = nI (g 2 n) ∧ pa (g 2 n) = nI n)
def yt_n (g : Nat → Nat → Nat) (o : Nat) (so lo hi fi se : Nat → Int32) (n : Nat) : Prop :=
  so (o + n) = nI (g 0 n) ∧ (g 0 n ≤ 1 → lo (o + n) = nI (g 1 n)) ∧ (2 ≤ g 0 n → fi (o + n) = nI (g 1 n)) ∧ (g 0 n = 2 ∨ g 0 n = 3 → se (o + n) = nI (g 2 n)) ∧ (g 0 n = 4 → lo (o + n) = nI (g 3 n) ∧ hi (o + n) = nI (g 4 n))
def me_n (g : Nat → Nat → Nat) (o : Nat) (pa le co : Nat → Int32) (n : Nat) : Prop :=
  pa (o + n) = nI (min (g 5 n) 1000) ∧ le (o + n) = nI (min (g 6 n) 1000) ∧ co (o + n) = nI (min (g 7 n) 1000)
def sk_s (g : Nat → Nat → Nat) (ma he : Nat) (sk : Nat → Nat) : Prop :=
  he ≤ ma ∧ ma ≤ 18 ∧ (∀ i, i < he → sk i < ma) ∧ (0 < he → sk (he - 1) + 1 = ma) ∧ (∀ i, i + 1 < he → sk i + 1 = g 9 (sk (i + 1))) ∧ (∀ i j, i < j → j < he → sk i < sk j) ∧
  (∀ i n, i < he → n < ma → (2 ≤ g 0 n → g 1 n ≠ sk i) ∧ (g 0 n = 2 ∨ g 0 n = 3 → g 2 n ≠ sk i))
theorem pg_ext {g g' : Nat → Nat → Nat} {m : Nat} (e : ∀ i n, n < m → g' i n = g i n) (T : pg_t g m) : pg_t g' m := by
  intro n hn
  have N := T n hn
  have E : ∀ i, g' i n = g i n := fun i => e i n hn
  unfold pg_n at N ⊢
  simp only [E]
  refine ⟨N.1, N.2.1, ?_⟩
  rcases N.2.2 with h | h | h | h | h
  · exact Or.inl h
  · exact Or.inr (Or.inl h)
  · refine Or.inr (Or.inr (Or.inl ?_))
    have E1 : ∀ i, g' i (g 1 n) = g i (g 1 n) := fun i => e i _ (by omega)
    have E2 : ∀ i, g' i (g 2 n) = g i (g 2 n) := fun i => e i _ (by omega)
    simp only [E1, E2]
    exact h
  · refine Or.inr (Or.inr (Or.inr (Or.inl ?_)))
    have E1 : ∀ i, g' i (g 1 n) = g i (g 1 n) := fun i => e i _ (by omega)
    have E2 : ∀ i, g' i (g 2 n) = g i (g 2 n) := fun i => e i _ (by omega)
    simp only [E1, E2]
    exact h
  · refine Or.inr (Or.inr (Or.inr (Or.inr ?_)))
    have E1 : ∀ i, g' i (g 1 n) = g i (g 1 n) := fun i => e i _ (by omega)
    simp only [E1]
    exact h
theorem pg_ext1 {g g' : Nat → Nat → Nat} {m : Nat} (e : ∀ i n, n < m → g' i n = g i n) (T : pg_t g m) (N : pg_n g' m) : pg_t g' (m + 1) := by
  intro n hn
  rcases Nat.lt_or_ge n m with h | h
  · exact pg_ext e T n h
  · have : n = m := by omega
    subst this; exact N
/-- statement ma takes the place of the entries from b on -/
theorem nw_sk {g g' : Nat → Nat → Nat} {ma he b : Nat} {sk : Nat → Nat} (e : ∀ i n, n < ma → g' i n = g i n) (T : pg_t g ma) (S : sk_s g ma he sk) (hb : b ≤ he) (hm : ma < 18) (hL : 0 < b → sk (b - 1) + 1 = g' 9 ma)
    (hF : 2 ≤ g' 0 ma → ∃ i, b ≤ i ∧ i < he ∧ g' 1 ma = sk i) (hS : g' 0 ma = 2 ∨ g' 0 ma = 3 → ∃ i, b ≤ i ∧ i < he ∧ g' 2 ma = sk i) : sk_s g' (ma + 1) (b + 1) (fun i => if i = b then ma else sk i) := by
  obtain ⟨s1, s2, s3, s4, s5, s6, s7⟩ := S
  refine ⟨by omega, by omega, fun i hi => ?_, fun _ => ?_, fun i hi => ?_, fun i j hij hj => ?_, fun i n hi hn => ?_⟩
  · dsimp only
    by_cases z : i = b
    · rw [if_pos z]; omega
    · rw [if_neg z]; have := s3 i (by omega); omega
  · dsimp only
    rw [if_pos (by omega)]
  · dsimp only
    rw [if_neg (by omega)]
    by_cases z : i + 1 = b
    · rw [if_pos z, ← hL (by omega)]
      have : b - 1 = i := by omega
      rw [this]
    · rw [if_neg z, e _ _ (s3 _ (by omega))]
      exact s5 i (by omega)
  · dsimp only
    rw [if_neg (by omega)]
    by_cases z : j = b
    · rw [if_pos z]; exact s3 i (by omega)
    · rw [if_neg z]; exact s6 i j hij (by omega)
  · dsimp only
    rcases Nat.lt_or_ge n ma with h | h
    · rw [e 0 n h, e 1 n h, e 2 n h]
      by_cases z : i = b
      · rw [if_pos z]
        have N := (T n h).2.2
        refine ⟨fun k => ?_, fun k => ?_⟩
        · have : g 1 n < n := by
            rcases N with N | N | N | N | N <;> omega
          omega
        · have : g 2 n < n := by
            rcases N with N | N | N | N | N <;> omega
          omega
      · rw [if_neg z]; exact s7 i n (by omega) h
    · have hn' : n = ma := by omega
      subst hn'
      by_cases z : i = b
      · rw [if_pos z]
        refine ⟨fun k => ?_, fun k => ?_⟩
        · obtain ⟨x, -, x2, x3⟩ := hF k
          have := s3 x x2; omega
        · obtain ⟨x, -, x2, x3⟩ := hS k
          have := s3 x x2; omega
      · rw [if_neg z]
        refine ⟨fun k => ?_, fun k => ?_⟩
        · obtain ⟨x, x1, x2, x3⟩ := hF k
          have := s6 i x (by omega) x2; omega
        · obtain ⟨x, x1, x2, x3⟩ := hS k
          have := s6 i x (by omega) x2; omega
theorem nw_xt {g g' : Nat → Nat → Nat} {ma he b : Nat} {sk : Nat → Nat} {ki fi se lo hi pa ki' fi' se' lo' hi' pa' : Nat → Int32} (e : ∀ i n, n < ma → g' i n = g i n) (S : sk_s g ma he sk) (hb : b ≤ he)
    (X : ∀ n, n < ma → xt_n g ki fi se lo hi pa n) (N : xt_n g' ki' fi' se' lo' hi' pa' ma)
    (E : ∀ n, n < ma → ki' n = ki n ∧ fi' n = fi n ∧ se' n = se n ∧ lo' n = lo n ∧ hi' n = hi n) (P : ∀ x, (∀ i, b ≤ i → i < he → x ≠ sk i) → pa' x = pa x) : ∀ n, n < ma + 1 → xt_n g' ki' fi' se' lo' hi' pa' n := by
  intro n hn
  rcases Nat.lt_or_ge n ma with h | h
  · obtain ⟨x1, x2, x3, x4, x5, x6⟩ := X n h
    obtain ⟨e1, e2, e3, e4, e5⟩ := E n h
    unfold xt_n
    rw [e 0 n h, e 1 n h, e 2 n h, e 3 n h, e 4 n h, e1, e2, e3, e4, e5]
    refine ⟨x1, x2, x3, x4, fun k => ?_, fun k => ⟨(x6 k).1, ?_⟩⟩
    · rw [P _ fun i _ hi => (S.2.2.2.2.2.2 i n hi h).1 k]; exact x5 k
    · rw [P _ fun i _ hi => (S.2.2.2.2.2.2 i n hi h).2 k]; exact (x6 k).2
  · have : n = ma := by omega
    subst this; exact N
theorem nw_yt {g g' : Nat → Nat → Nat} {ma o : Nat} {so lo hi fi se so' lo' hi' fi' se' : Nat → Int32} (e : ∀ i n, n < ma → g' i n = g i n)
    (Y : ∀ n, n < ma → yt_n g o so lo hi fi se n) (N : yt_n g' o so' lo' hi' fi' se' ma)
    (E : ∀ n, n < ma → so' (o + n) = so (o + n) ∧ lo' (o + n) = lo (o + n) ∧ hi' (o + n) = hi (o + n) ∧ fi' (o + n) = fi (o + n) ∧ se' (o + n) = se (o + n)) : ∀ n, n < ma + 1 → yt_n g' o so' lo' hi' fi' se' n := by
  intro n hn
  rcases Nat.lt_or_ge n ma with h | h
  · have y := Y n h
    obtain ⟨e1, e2, e3, e4, e5⟩ := E n h
    unfold yt_n at y ⊢
    rw [e 0 n h, e 1 n h, e 2 n h, e 3 n h, e 4 n h, e1, e2, e3, e4, e5]
    exact y
  · have : n = ma := by omega
    subst this; exact N
theorem nw_me {g g' : Nat → Nat → Nat} {ma o : Nat} {pa le co pa' le' co' : Nat → Int32} (e : ∀ i n, n < ma → g' i n = g i n)
    (M : ∀ n, n < ma → me_n g o pa le co n) (N : me_n g' o pa' le' co' ma)
    (E : ∀ n, n < ma → pa' (o + n) = pa (o + n) ∧ le' (o + n) = le (o + n) ∧ co' (o + n) = co (o + n)) : ∀ n, n < ma + 1 → me_n g' o pa' le' co' n := by
  intro n hn
  rcases Nat.lt_or_ge n ma with h | h
  · have y := M n h
    obtain ⟨e1, e2, e3⟩ := E n h
    unfold me_n at y ⊢
    rw [e 5 n h, e 6 n h, e 7 n h, e1, e2, e3]
    exact y
  · have : n = ma := by omega
    subst this; exact N
/-- the ghost table with statement m put down -/
def gh_n (g : Nat → Nat → Nat) (m : Nat) (v : Nat → Nat) : Nat → Nat → Nat := fun i n => if n = m then v i else g i n
theorem gh_e {g : Nat → Nat → Nat} {m : Nat} {v : Nat → Nat} : ∀ i n, n < m → gh_n g m v i n = g i n := fun i n h => by
  show (if n = m then v i else g i n) = g i n
  rw [if_neg (by omega)]
theorem gh_m {g : Nat → Nat → Nat} {m : Nat} {v : Nat → Nat} (i : Nat) : gh_n g m v i m = v i := by
  show (if m = m then v i else g i m) = v i
  rw [if_pos rfl]
def gv_v (a0 a1 a2 a3 a4 a5 a6 a7 a8 a9 : Nat) : Nat → Nat
  | 0 => a0 | 1 => a1 | 2 => a2 | 3 => a3 | 4 => a4 | 5 => a5 | 6 => a6 | 7 => a7 | 8 => a8 | 9 => a9 | _ => 0
end
section
/-! what holds in the midst of a run -/
def rn_I (g : Nat → Nat → Nat) (root w s kept : Nat) (q0 : Nat → Int32) (i t c : Nat) (L : List Nat) (pa pt ca mi hi ypa yto yca ymi yst : Nat → Int32) : Prop :=
  lm_cf g pa root i = (L, t, c) ∧ lm_V g pa root i ∧
  (∀ a, a < i → ∀ n K t c, lm_cf g pa root a = (n :: K, t, c) → lm_ch g n → pt t = nI (g 4 n) ∧ yto t = nI (g 4 n)) ∧
  t + lm_k g L ≤ 20 ∧ (∀ k, k < kept → q0 k = pa k) ∧
  (∀ k, k < 20 → (k < kept ∨ k < t → ypa k = pa k) ∧ (¬ (k < kept ∨ k < t) → pa k = -4)) ∧
  cr_R w s ca yca ∧ (∀ n, n < 18 → mi n = ymi n ∧ hi n = yst n) ∧ kept ≤ 20
theorem rn_eq1 {g : Nat → Nat → Nat} {pa : Nat → Int32} {root i : Nat} {x : List Nat × Nat × Nat} (h : lm_cf g pa root i = x) : lm_cf g pa root (i + 1) = lm_st g pa x := by
  rw [← h]; rfl
theorem rn_step {g : Nat → Nat → Nat} {root w s kept : Nat} {q0 : Nat → Int32} {i t c n : Nat} {K L' : List Nat} {pa pt ca mi hi ypa yto yca ymi yst ca' mi' hi' yca' ymi' yst' : Nat → Int32} (N : pg_n g n)
    (I : rn_I g root w s kept q0 i t c (n :: K) pa pt ca mi hi ypa yto yca ymi yst) (nc : ¬ lm_ch g n) (e : lm_st g pa (n :: K, t, c) = (L', t, c))
    (R : cr_R w s ca' yca') (M : ∀ n, n < 18 → mi' n = ymi' n ∧ hi' n = yst' n) : rn_I g root w s kept q0 (i + 1) t c L' pa pt ca' mi' hi' ypa yto yca' ymi' yst' := by
  obtain ⟨h1, h2, h3, h4, h5, h6, h7, h8, h9⟩ := I
  refine ⟨?_, ?_, ?_, ?_, h5, h6, R, M, h9⟩
  · rw [rn_eq1 h1, e]
  · intro a ha n' K' t' c' e' hc
    rcases Nat.lt_or_ge a i with z | z
    · exact h2 a z n' K' t' c' e' hc
    · have : a = i := by omega
      subst this
      rw [h1] at e'
      cases e'
      exact absurd hc nc
  · intro a ha n' K' t' c' e' hc
    rcases Nat.lt_or_ge a i with z | z
    · exact h3 a z n' K' t' c' e' hc
    · have : a = i := by omega
      subst this
      rw [h1] at e'
      cases e'
      exact absurd hc nc
  · have u := (lm_step (q := pa) (t := t) (c := c) (K := K) N (fun hc => absurd hc nc)).2.1
    rw [e] at u
    dsimp only at u
    omega
theorem rn_new {g : Nat → Nat → Nat} {root w s kept R : Nat} {q0 : Nat → Int32} {i t c n : Nat} {K : List Nat} {pa pt ca mi hi ypa yto yca ymi yst : Nat → Int32} (N : pg_n g n)
    (I : rn_I g root w s kept q0 i t c (n :: K) pa pt ca mi hi ypa yto yca ymi yst) (Pr : lm_pre g q0 root kept R) (hc : lm_ch g n) :
    t < 20 ∧ ((t < kept ∧ ∃ k, pa t = nI k ∧ ypa t = nI k ∧ g 3 n ≤ k ∧ k ≤ g 4 n) ∨ (¬ t < kept ∧ pa t = -4)) := by
  obtain ⟨h1, h2, h3, h4, h5, h6, h7, h8, h9⟩ := I
  have ht : t < 20 := by
    have : 1 ≤ g 7 n := by
      obtain ⟨-, -, N | N | N | N | N⟩ := N
      · unfold lm_ch at hc; omega
      · unfold lm_ch at hc; omega
      · unfold lm_ch at hc; omega
      · omega
      · have : g 3 n < g 4 n := by unfold lm_ch at hc; omega
        rw [N.2.2.2.2.2.2.2.1, if_pos this]; omega
    dsimp only [lm_k] at h4
    omega
  refine ⟨ht, ?_⟩
  by_cases z : t < kept
  · refine Or.inl ⟨z, ?_⟩
    have e : lm_cf g q0 root i = (n :: K, t, c) := by
      rw [← h1]
      refine lm_eq i fun k hk => (h5 k ?_).symm
      rw [h1] at hk; dsimp only at hk; omega
    obtain ⟨k, k1, k2⟩ := Pr.1 i n K t c e hc z
    rw [h5 t z] at k1
    exact ⟨k, k1, by rw [(h6 t ht).1 (Or.inl z)]; exact k1, k2⟩
  · exact Or.inr ⟨z, (h6 t ht).2 (by omega)⟩
/-- after a choice: pa', pt' and ypa', yto' as the two methods leave them -/
theorem rn_cho {g : Nat → Nat → Nat} {root w s kept : Nat} {q0 : Nat → Int32} {i t c n k : Nat} {K : List Nat} {pa pt ca mi hi ypa yto yca ymi yst pa' pt' ypa' yto' : Nat → Int32} (N : pg_n g n)
    (I : rn_I g root w s kept q0 i t c (n :: K) pa pt ca mi hi ypa yto yca ymi yst) (hc : lm_ch g n) (ht : t < 20)
    (e1 : pa' t = nI k) (e2 : ypa' t = nI k) (hk : g 3 n ≤ k ∧ k ≤ g 4 n) (e3 : ∀ x, x ≠ t → pa' x = pa x ∧ ypa' x = ypa x) (e4 : t < kept → pa' = pa)
    (e5 : pt' t = nI (g 4 n) ∧ yto' t = nI (g 4 n)) (e6 : ∀ x, x ≠ t → pt' x = pt x ∧ yto' x = yto x) {L' : List Nat} {c' : Nat} (e7 : lm_st g pa' (n :: K, t, c) = (L', t + 1, c')) :
    rn_I g root w s kept q0 (i + 1) (t + 1) c' L' pa' pt' ca mi hi ypa' yto' yca ymi yst := by
  obtain ⟨h1, h2, h3, h4, h5, h6, h7, h8, h9⟩ := I
  have below : ∀ a, a ≤ i → lm_cf g pa' root a = lm_cf g pa root a := by
    intro a ha
    refine lm_eq a fun x hx => ?_
    have u := (lm_tmono (g := g) (q := pa) (r := root) ha).1
    rw [h1] at u
    dsimp only at u
    exact ((e3 x (by omega)).1).symm
  have tlt : ∀ a, a < i → ∀ n' K' t' c', lm_cf g pa root a = (n' :: K', t', c') → lm_ch g n' → t' < t := by
    intro a ha n' K' t' c' e hc'
    have u := (lm_tmono (g := g) (q := pa) (r := root) (show a + 1 ≤ i by omega)).1
    rw [h1, rn_eq1 e] at u
    dsimp only at u
    have u3 : t' < (lm_st g pa (n' :: K', t', c')).2.1 := by
      unfold lm_st
      dsimp only
      rcases hc' with hc | ⟨hc, hl⟩
      · rw [if_neg (by omega), if_neg (by omega), if_pos hc]
        by_cases z0 : pa t' = 0
        · rw [if_pos z0]; dsimp only; omega
        · rw [if_neg z0]; dsimp only; omega
      · rw [if_neg (by omega), if_neg (by omega), if_neg (by omega), if_pos hl]; dsimp only; omega
    omega
  refine ⟨?_, ?_, ?_, ?_, ?_, ?_, h7, h8, h9⟩
  · rw [rn_eq1 (below i (Nat.le_refl _)), h1, e7]
  · intro a ha n' K' t' c'' e hc'
    rw [below a (by omega)] at e
    rcases Nat.lt_or_ge a i with z | z
    · obtain ⟨k', k1, k2⟩ := h2 a z n' K' t' c'' e hc'
      have := tlt a z n' K' t' c'' e hc'
      exact ⟨k', by rw [(e3 t' (by omega)).1]; exact k1, k2⟩
    · have : a = i := by omega
      subst this
      rw [h1] at e
      cases e
      exact ⟨k, e1, hk.1, hk.2⟩
  · intro a ha n' K' t' c'' e hc'
    rw [below a (by omega)] at e
    rcases Nat.lt_or_ge a i with z | z
    · have := tlt a z n' K' t' c'' e hc'
      rw [(e6 t' (by omega)).1, (e6 t' (by omega)).2]
      exact h3 a z n' K' t' c'' e hc'
    · have : a = i := by omega
      subst this
      rw [h1] at e
      cases e
      exact e5
  · have u := (lm_step (q := pa') (t := t) (c := c) (K := K) N (fun _ => ⟨k, e1, hk.1, hk.2⟩)).2.1
    rw [e7] at u
    dsimp only at u
    omega
  · intro x hx
    by_cases z : x = t
    · subst z; rw [e4 hx]; exact h5 x hx
    · rw [(e3 x z).1]; exact h5 x hx
  · intro x hx
    by_cases z : x = t
    · subst z
      exact ⟨fun _ => by rw [e1, e2], fun y => by omega⟩
    · rw [(e3 x z).1, (e3 x z).2]
      exact ⟨fun y => (h6 x hx).1 (by omega), fun y => (h6 x hx).2 (by omega)⟩
theorem rn_pick {g : Nat → Nat → Nat} {root w s kept R : Nat} {q0 : Nat → Int32} {i t c n : Nat} {K : List Nat} {pa pt ca mi hi ypa yto yca ymi yst : Nat → Int32} (N : pg_n g n)
    (I : rn_I g root w s kept q0 i t c (n :: K) pa pt ca mi hi ypa yto yca ymi yst) (Pr : lm_pre g q0 root kept R) (hc : lm_ch g n) :
    ∃ (k : Nat) (pa' ypa' : Nat → Int32), g 3 n ≤ k ∧ k ≤ g 4 n ∧ k ≤ 4 ∧ t < 20 ∧ pa' t = nI k ∧
      ((pa t = -4 ∧ pa' = upd pa t (nI (g 3 n)) ∧ g 3 n = k) ∨ (¬ pa t = -4 ∧ pa' = pa ∧ pa t = nI k)) ∧
      ((¬ t < kept ∧ ypa' = upd ypa t (nI (g 3 n)) ∧ g 3 n = k) ∨ (t < kept ∧ ypa' = ypa ∧ ypa t = nI k)) ∧
      (∀ L' c', lm_st g pa' (n :: K, t, c) = (L', t + 1, c') → rn_I g root w s kept q0 (i + 1) (t + 1) c' L' pa' (upd pt t (nI (g 4 n))) ca mi hi ypa' (upd yto t (nI (g 4 n))) yca ymi yst) := by
  have h4 : g 3 n ≤ g 4 n ∧ g 4 n ≤ 4 := by
    obtain ⟨-, -, N | N | N | N | N⟩ := N <;> omega
  have e6 : ∀ x, x ≠ t → upd pt t (nI (g 4 n)) x = pt x ∧ upd yto t (nI (g 4 n)) x = yto x := fun x hx => ⟨us_n hx, us_n hx⟩
  obtain ⟨ht, ⟨a1, k, a2, a3, a4, a5⟩ | ⟨a1, a2⟩⟩ := rn_new N I Pr hc
  · have ne : ¬ pa t = -4 := by
      rw [a2]
      have : ∀ x, x < 5 → ¬ nI x = -4 := by decide
      exact this k (by omega)
    refine ⟨k, pa, ypa, a4, a5, by omega, ht, a2, Or.inr ⟨ne, rfl, a2⟩, Or.inr ⟨a1, rfl, a3⟩, fun L' c' e => ?_⟩
    exact rn_cho N I hc ht a2 a3 ⟨a4, a5⟩ (fun x _ => ⟨rfl, rfl⟩) (fun _ => rfl) ⟨us_s, us_s⟩ e6 e
  · refine ⟨g 3 n, upd pa t (nI (g 3 n)), upd ypa t (nI (g 3 n)), Nat.le_refl _, h4.1, by omega, ht, us_s, Or.inl ⟨a2, rfl, rfl⟩, Or.inl ⟨a1, rfl, rfl⟩, fun L' c' e => ?_⟩
    exact rn_cho N I hc ht us_s us_s ⟨Nat.le_refl _, h4.1⟩ (fun x hx => ⟨us_n hx, us_n hx⟩) (fun z => absurd z a1) ⟨us_s, us_s⟩ e6 e
end
section
/-! the end of a run: codes and what is held -/
def nt_x (ag : Nat → Int32) : Nat → Nat := fun m => (ag m).toNatClampNeg
def nt_y (ce : Nat → Int32) : Nat → Nat := fun p => (ce p + 1).toNatClampNeg
theorem nt_m1 : (-1 : Int32) + 1 = nI 0 := by decide
theorem nt_xlt {w s : Nat} {ag ce : Nat → Int32} (hw : w ≤ 4) (R : cr_R w s ag ce) : ∀ m, m < 12 → nt_x ag m < 8 ∧ ag m = nI (nt_x ag m) ∧ nt_x ag m ≤ w := by
  intro m hm
  obtain ⟨a, a1, a2, -⟩ := R.1 m hm
  unfold nt_x
  rw [a2, nI_clamp (by omega)]
  exact ⟨by omega, rfl, a1⟩
theorem nt_ylt {w s : Nat} {ag ce : Nat → Int32} (R : cr_R w s ag ce) : ∀ p, p < 16 → nt_y ce p < 13 ∧ ce p + 1 = nI (nt_y ce p) := by
  intro p hp
  have e : 4 * (p / 4) + p % 4 = p := by omega
  unfold nt_y
  rcases R.2 (p / 4) (p % 4) (by omega) (by omega) with z | ⟨z1, m, z2, z3, z4⟩
  · rw [e] at z
    rw [z, nt_m1, nI_clamp (by omega)]
    exact ⟨by omega, rfl⟩
  · rw [e] at z4
    rw [z4, nI_1, nI_clamp (by omega)]
    exact ⟨by omega, rfl⟩
theorem nt_same {w s : Nat} {ag ce ag2 ce2 : Nat → Int32} (hw : w ≤ 4) (hs0 : 0 < s) (hs : s ≤ 4) (R : cr_R w s ag ce) (R2 : cr_R w s ag2 ce2) : cd_c 8 (nt_x ag) 12 = cd_c 8 (nt_x ag2) 12 ↔ cd_c 13 (nt_y ce) 16 = cd_c 13 (nt_y ce2) 16 := by
  constructor
  · intro h
    have e := cd_inj 12 (fun i hi => (nt_xlt hw R i hi).1) (fun i hi => (nt_xlt hw R2 i hi).1) h
    have e2 : ∀ m, m < 12 → ag m = ag2 m := fun m hm => by rw [(nt_xlt hw R m hm).2.1, (nt_xlt hw R2 m hm).2.1, e m hm]
    have e3 := cr_cells hw R R2 e2
    exact cd_eq 16 fun i hi => by unfold nt_y; rw [e3 i hi]
  · intro h
    have e := cd_inj 16 (fun i hi => (nt_ylt R i hi).1) (fun i hi => (nt_ylt R2 i hi).1) h
    have e2 : ∀ i, i < 16 → ce i = ce2 i := fun i hi => by
      have u := (nt_ylt R i hi).2
      rw [e i hi, ← (nt_ylt R2 i hi).2] at u
      exact (Int32.add_left_inj 1).mp u
    have e3 := cr_ages hw hs0 hs R R2 e2
    exact cd_eq 12 fun i hi => by unfold nt_x; rw [e3 i hi]
/-- Y's counts of lines held, the cells below p gone through -/
def hd_f (w s : Nat) (ag old : Nat → Int32) (p : Nat) : Nat → Int32 := fun m => if m < 12 ∧ nt_x ag m < w ∧ 4 * (m % s) + nt_x ag m < p then old m + 1 else old m
theorem hd_cell {w s : Nat} {ag ce : Nat → Int32} (hw : w ≤ 4) (hs0 : 0 < s) (hs : s ≤ 4) (R : cr_R w s ag ce) {p m : Nat} (hp : p < 16) (hm : m < 12) : ce p = nI m ↔ (nt_x ag m < w ∧ 4 * (m % s) + nt_x ag m = p) := by
  have e : 4 * (p / 4) + p % 4 = p := by omega
  have hb := Nat.mod_lt m hs0
  obtain ⟨a, a1, a2, a3⟩ := R.1 m hm
  have ex : nt_x ag m = a := by unfold nt_x; rw [a2, nI_clamp (by omega)]
  rw [ex]
  constructor
  · intro h
    rcases R.2 (p / 4) (p % 4) (by omega) (by omega) with z | ⟨z1, m', z2, z3, z4⟩
    · rw [e, h] at z; exact absurd z.symm (cr_m1 hm)
    · rw [e, h] at z4
      have : m = m' := (nI_eq (by omega) (by omega)).mp z4
      subst this
      have u := (a3 (p % 4) z1).mp (by rw [z3, e]; exact h)
      omega
  · rintro ⟨h1, h2⟩
    rw [← h2]
    exact (a3 a h1).mpr rfl
theorem hd_0 {w s : Nat} {ag old : Nat → Int32} : hd_f w s ag old 0 = old := by
  funext m
  show (if m < 12 ∧ nt_x ag m < w ∧ 4 * (m % s) + nt_x ag m < 0 then old m + 1 else old m) = old m
  rw [if_neg (by omega)]
theorem hd_no {w s : Nat} {ag ce old : Nat → Int32} (hw : w ≤ 4) (hs0 : 0 < s) (hs : s ≤ 4) (R : cr_R w s ag ce) {p : Nat} (hp : p < 16) (h : ce p = -1) : hd_f w s ag old p = hd_f w s ag old (p + 1) := by
  funext m
  show (if m < 12 ∧ nt_x ag m < w ∧ 4 * (m % s) + nt_x ag m < p then old m + 1 else old m) = (if m < 12 ∧ nt_x ag m < w ∧ 4 * (m % s) + nt_x ag m < p + 1 then old m + 1 else old m)
  by_cases c : m < 12 ∧ nt_x ag m < w ∧ 4 * (m % s) + nt_x ag m = p
  · have := (hd_cell hw hs0 hs R hp c.1).mpr c.2
    rw [h] at this
    exact absurd this (cr_m1 c.1)
  · by_cases d : m < 12 ∧ nt_x ag m < w ∧ 4 * (m % s) + nt_x ag m < p
    · rw [if_pos d, if_pos (by omega)]
    · rw [if_neg d, if_neg (by omega)]
theorem hd_yes {w s : Nat} {ag ce old : Nat → Int32} (hw : w ≤ 4) (hs0 : 0 < s) (hs : s ≤ 4) (R : cr_R w s ag ce) {p k : Nat} (hp : p < 16) (hk : k < 12) (h : ce p = nI k) : upd (hd_f w s ag old p) k (hd_f w s ag old p k + 1) = hd_f w s ag old (p + 1) := by
  have hc := (hd_cell hw hs0 hs R hp hk).mp h
  funext m
  by_cases e : m = k
  · subst e
    rw [us_s]
    show (if m < 12 ∧ nt_x ag m < w ∧ 4 * (m % s) + nt_x ag m < p then old m + 1 else old m) + 1 = (if m < 12 ∧ nt_x ag m < w ∧ 4 * (m % s) + nt_x ag m < p + 1 then old m + 1 else old m)
    rw [if_neg (by omega), if_pos (by omega)]
  · rw [us_n e]
    show (if m < 12 ∧ nt_x ag m < w ∧ 4 * (m % s) + nt_x ag m < p then old m + 1 else old m) = (if m < 12 ∧ nt_x ag m < w ∧ 4 * (m % s) + nt_x ag m < p + 1 then old m + 1 else old m)
    by_cases c : m < 12 ∧ nt_x ag m < w ∧ 4 * (m % s) + nt_x ag m = p
    · have u := (hd_cell hw hs0 hs R hp c.1).mpr c.2
      rw [h] at u
      exact absurd ((nI_eq (by omega) (by omega)).mp u).symm e
    · by_cases d : m < 12 ∧ nt_x ag m < w ∧ 4 * (m % s) + nt_x ag m < p
      · rw [if_pos d, if_pos (by omega)]
      · rw [if_neg d, if_neg (by omega)]
theorem hd_16 {w s : Nat} {ag old : Nat → Int32} (hw : w ≤ 4) (hs0 : 0 < s) (hs : s ≤ 4) : ∀ m, m < 12 → hd_f w s ag old 16 m = if nt_x ag m < w then old m + 1 else old m := by
  intro m hm
  have hb := Nat.mod_lt m hs0
  show (if m < 12 ∧ nt_x ag m < w ∧ 4 * (m % s) + nt_x ag m < 16 then old m + 1 else old m) = _
  by_cases c : nt_x ag m < w
  · rw [if_pos c, if_pos (by omega)]
  · rw [if_neg c, if_neg (by omega)]
def nt_E (w s en : Nat) (xe ye : Nat → Int64) : Prop := ∀ i, i < en → ∃ ag ce, cr_R w s ag ce ∧ xe i = lN (cd_c 8 (nt_x ag) 12) ∧ ye i = lN (cd_c 13 (nt_y ce) 16)
def nt_A (g : Nat → Nat → Nat) (sz : Nat) (xs ys : Nat → Int32) : Prop := ∀ n, n < 18 → (n < sz ∧ g 0 n = 0 → xs n = ys n) ∧ (¬ (n < sz ∧ g 0 n = 0) → xs n = -4)
def nt_W (wt xc yc yw : Int32) (xp yp : Nat → Int32) : Prop := wt = -1 ∨ (xc = yc ∧ ∃ wc, wc ≤ 20 ∧ yw = nI wc ∧ ∀ k, k < 20 → (k < wc → xp k = yp k) ∧ (¬ k < wc → xp k = -4))
end
section
/-! X: an access to a line, in a run and in the tables -/
theorem um_u {P : (Nat → Int32) → Prop} {a : Nat → Int32} {x v : Int32} {n : Nat} (h : x.toNatClampNeg = n) (H : P (upd a n v)) : ∀ y, y = upd a x.toNatClampNeg v → P y := by
  intro y e
  rw [e, h]
  exact H
theorem xc_loopcache {f_setBits : Int32} {f_placeCount : Int32} {f_made : Int32} {f_height : Int32} {f_pathCount : Int32} {f_greatestLength : Int32} {f_worstTime : Int32} {f_bestTime : Int32} {f_worstCount : Int32} {f_programBound : Int32} {f_endingCount : Int32} {f_chosen : Int32} {f_time : Int32} {a_kind : Nat → Int32} {a_first : Nat → Int32} {a_second : Nat → Int32} {a_low : Nat → Int32} {a_high : Nat → Int32} {a_parent : Nat → Int32} {a_pathsOf : Nat → Int32} {a_lengthOf : Nat → Int32} {a_choicesOf : Nat → Int32} {a_stack : Nat → Int32} {a_worstPath : Nat → Int32} {a_sureness : Nat → Int32} {a_mostMisses : Nat → Int32} {a_mostHits : Nat → Int32} {a_leastMisses : Nat → Int32} {a_endings : Nat → Int64} {a_runsHolding : Nat → Int32} {a_rounds : Nat → Int32} {a_path : Nat → Int32} {a_pathTop : Nat → Int32} {a_cache : Nat → Int32} {a_runMisses : Nat → Int32} {a_runHits : Nat → Int32} {a_table : Nat → Int32} {a_before : Nat → Int32} {a_behind : Nat → Int32} {Q : Int32 → SX → Prop} {age : Int32} {s m : Nat} (hm : m < 12) (hb : ∀ x y, x < 12 → y < 12 → ((nI x &&& f_setBits) = (nI y &&& f_setBits) ↔ x % s = y % s))
    (Hh : ¬ f_placeCount ≤ age → Q 1 (f_setBits, f_placeCount, f_made, f_height, f_pathCount, f_greatestLength, f_worstTime, f_bestTime, f_worstCount, f_programBound, f_endingCount, f_chosen, f_time, a_kind, a_first, a_second, a_low, a_high, a_parent, a_pathsOf, a_lengthOf, a_choicesOf, a_stack, a_worstPath, a_sureness, a_mostMisses, a_mostHits, a_leastMisses, a_endings, a_runsHolding, a_rounds, a_path, a_pathTop, upd (sw_f (ac_f s m age a_cache) a_cache 12) m 0, a_runMisses, a_runHits, a_table, a_before, a_behind)) (Hm : f_placeCount ≤ age → Q 10 (f_setBits, f_placeCount, f_made, f_height, f_pathCount, f_greatestLength, f_worstTime, f_bestTime, f_worstCount, f_programBound, f_endingCount, f_chosen, f_time, a_kind, a_first, a_second, a_low, a_high, a_parent, a_pathsOf, a_lengthOf, a_choicesOf, a_stack, a_worstPath, a_sureness, a_mostMisses, a_mostHits, a_leastMisses, a_endings, a_runsHolding, a_rounds, a_path, a_pathTop, upd (sw_f (ac_f s m age a_cache) a_cache 12) m 0, a_runMisses, a_runHits, a_table, a_before, a_behind)) :
    ∀ d i, i + d = 12 → wX_accessAges__cache_7 Q (nI m) age f_setBits f_placeCount f_made f_height f_pathCount f_greatestLength f_worstTime f_bestTime f_worstCount f_programBound f_endingCount f_chosen f_time (d + 1) (nI i) a_kind a_first a_second a_low a_high a_parent a_pathsOf a_lengthOf a_choicesOf a_stack a_worstPath a_sureness a_mostMisses a_mostHits a_leastMisses a_endings a_runsHolding a_rounds a_path a_pathTop (sw_f (ac_f s m age a_cache) a_cache i) a_runMisses a_runHits a_table a_before a_behind := by
  have cm : (nI m).toNatClampNeg = m := nI_clamp (by omega)
  have im : vp_in (nI m) 12 := vp_in_nI (by omega) (by omega)
  intro d
  induction d with
  | zero =>
    intro i hi
    have hi : i = 12 := by omega
    subst hi
    refine br_t (by decide) ⟨im, um_u cm (br_c Hm Hh)⟩
  | succ d ih =>
    intro i hi
    have c : (nI i).toNatClampNeg = i := nI_clamp (by omega)
    have ii : vp_in (nI i) 12 := vp_in_nI (by omega) (by omega)
    have h12 : ¬ (12 : Int32) ≤ nI i := nI_ge (b := 12) (by omega) (by omega)
    by_cases e : i % s = m % s
    · have ev : sw_f (ac_f s m age a_cache) a_cache i (nI i).toNatClampNeg = a_cache i := by rw [c, sw_at]
      by_cases l : age ≤ a_cache i
      · have k : ac_f s m age a_cache i = a_cache i := by
          unfold ac_f; rw [if_neg (fun z => Int32.not_lt.mpr l z.2)]
        refine br_f h12 (br_t ((hb i m (by omega) hm).mpr e) ⟨ii, br_t (by rw [ev]; exact l) (nm_r (nI_1 i) ?_)⟩)
        rw [sw_k k]
        exact ih (i + 1) (by omega)
      · have k : sw_f (ac_f s m age a_cache) a_cache i (nI i).toNatClampNeg + 1 = ac_f s m age a_cache i := by
          rw [ev]; unfold ac_f; rw [if_pos ⟨e, Int32.not_le.mp l⟩]
        refine br_f h12 (br_t ((hb i m (by omega) hm).mpr e) ⟨ii, br_f (by rw [ev]; exact l) ⟨ii, ii, um_u c (nm_r (nI_1 i) ?_)⟩⟩)
        rw [sw_u k]
        exact ih (i + 1) (by omega)
    · have k : ac_f s m age a_cache i = a_cache i := by
        unfold ac_f; rw [if_neg (fun z => e z.1)]
      refine br_f h12 (br_f (fun z => e ((hb i m (by omega) hm).mp z)) (nm_r (nI_1 i) ?_))
      rw [sw_k k]
      exact ih (i + 1) (by omega)
theorem xc_acccache {f_setBits : Int32} {f_placeCount : Int32} {f_made : Int32} {f_height : Int32} {f_pathCount : Int32} {f_greatestLength : Int32} {f_worstTime : Int32} {f_bestTime : Int32} {f_worstCount : Int32} {f_programBound : Int32} {f_endingCount : Int32} {f_chosen : Int32} {f_time : Int32} {a_kind : Nat → Int32} {a_first : Nat → Int32} {a_second : Nat → Int32} {a_low : Nat → Int32} {a_high : Nat → Int32} {a_parent : Nat → Int32} {a_pathsOf : Nat → Int32} {a_lengthOf : Nat → Int32} {a_choicesOf : Nat → Int32} {a_stack : Nat → Int32} {a_worstPath : Nat → Int32} {a_sureness : Nat → Int32} {a_mostMisses : Nat → Int32} {a_mostHits : Nat → Int32} {a_leastMisses : Nat → Int32} {a_endings : Nat → Int64} {a_runsHolding : Nat → Int32} {a_rounds : Nat → Int32} {a_path : Nat → Int32} {a_pathTop : Nat → Int32} {a_cache : Nat → Int32} {a_runMisses : Nat → Int32} {a_runHits : Nat → Int32} {a_table : Nat → Int32} {a_before : Nat → Int32} {a_behind : Nat → Int32} {Q : Int32 → SX → Prop} {s m : Nat} (hm : m < 12) (hb : ∀ x y, x < 12 → y < 12 → ((nI x &&& f_setBits) = (nI y &&& f_setBits) ↔ x % s = y % s))
    (Hh : ¬ f_placeCount ≤ a_cache m → Q 1 (f_setBits, f_placeCount, f_made, f_height, f_pathCount, f_greatestLength, f_worstTime, f_bestTime, f_worstCount, f_programBound, f_endingCount, f_chosen, f_time, a_kind, a_first, a_second, a_low, a_high, a_parent, a_pathsOf, a_lengthOf, a_choicesOf, a_stack, a_worstPath, a_sureness, a_mostMisses, a_mostHits, a_leastMisses, a_endings, a_runsHolding, a_rounds, a_path, a_pathTop, ac_a s m a_cache, a_runMisses, a_runHits, a_table, a_before, a_behind)) (Hm : f_placeCount ≤ a_cache m → Q 10 (f_setBits, f_placeCount, f_made, f_height, f_pathCount, f_greatestLength, f_worstTime, f_bestTime, f_worstCount, f_programBound, f_endingCount, f_chosen, f_time, a_kind, a_first, a_second, a_low, a_high, a_parent, a_pathsOf, a_lengthOf, a_choicesOf, a_stack, a_worstPath, a_sureness, a_mostMisses, a_mostHits, a_leastMisses, a_endings, a_runsHolding, a_rounds, a_path, a_pathTop, ac_a s m a_cache, a_runMisses, a_runHits, a_table, a_before, a_behind)) : wpX_accessAges__cache Q (f_setBits, f_placeCount, f_made, f_height, f_pathCount, f_greatestLength, f_worstTime, f_bestTime, f_worstCount, f_programBound, f_endingCount, f_chosen, f_time, a_kind, a_first, a_second, a_low, a_high, a_parent, a_pathsOf, a_lengthOf, a_choicesOf, a_stack, a_worstPath, a_sureness, a_mostMisses, a_mostHits, a_leastMisses, a_endings, a_runsHolding, a_rounds, a_path, a_pathTop, a_cache, a_runMisses, a_runHits, a_table, a_before, a_behind) (nI m) := by
  have cm : (nI m).toNatClampNeg = m := nI_clamp (by omega)
  have im : vp_in (nI m) 12 := vp_in_nI (by omega) (by omega)
  have L := xc_loopcache (a_cache := a_cache) hm hb Hh Hm 12 0 (by omega)
  rw [sw_0] at L
  exact And.intro im (nm_r (congrArg a_cache cm) ⟨13, L⟩)
theorem xc_looptable {f_setBits : Int32} {f_placeCount : Int32} {f_made : Int32} {f_height : Int32} {f_pathCount : Int32} {f_greatestLength : Int32} {f_worstTime : Int32} {f_bestTime : Int32} {f_worstCount : Int32} {f_programBound : Int32} {f_endingCount : Int32} {f_chosen : Int32} {f_time : Int32} {a_kind : Nat → Int32} {a_first : Nat → Int32} {a_second : Nat → Int32} {a_low : Nat → Int32} {a_high : Nat → Int32} {a_parent : Nat → Int32} {a_pathsOf : Nat → Int32} {a_lengthOf : Nat → Int32} {a_choicesOf : Nat → Int32} {a_stack : Nat → Int32} {a_worstPath : Nat → Int32} {a_sureness : Nat → Int32} {a_mostMisses : Nat → Int32} {a_mostHits : Nat → Int32} {a_leastMisses : Nat → Int32} {a_endings : Nat → Int64} {a_runsHolding : Nat → Int32} {a_rounds : Nat → Int32} {a_path : Nat → Int32} {a_pathTop : Nat → Int32} {a_cache : Nat → Int32} {a_runMisses : Nat → Int32} {a_runHits : Nat → Int32} {a_table : Nat → Int32} {a_before : Nat → Int32} {a_behind : Nat → Int32} {Q : Int32 → SX → Prop} {age : Int32} {s m : Nat} (hm : m < 12) (hb : ∀ x y, x < 12 → y < 12 → ((nI x &&& f_setBits) = (nI y &&& f_setBits) ↔ x % s = y % s))
    (Hh : ¬ f_placeCount ≤ age → Q 1 (f_setBits, f_placeCount, f_made, f_height, f_pathCount, f_greatestLength, f_worstTime, f_bestTime, f_worstCount, f_programBound, f_endingCount, f_chosen, f_time, a_kind, a_first, a_second, a_low, a_high, a_parent, a_pathsOf, a_lengthOf, a_choicesOf, a_stack, a_worstPath, a_sureness, a_mostMisses, a_mostHits, a_leastMisses, a_endings, a_runsHolding, a_rounds, a_path, a_pathTop, a_cache, a_runMisses, a_runHits, upd (sw_f (ac_f s m age a_table) a_table 12) m 0, a_before, a_behind)) (Hm : f_placeCount ≤ age → Q 10 (f_setBits, f_placeCount, f_made, f_height, f_pathCount, f_greatestLength, f_worstTime, f_bestTime, f_worstCount, f_programBound, f_endingCount, f_chosen, f_time, a_kind, a_first, a_second, a_low, a_high, a_parent, a_pathsOf, a_lengthOf, a_choicesOf, a_stack, a_worstPath, a_sureness, a_mostMisses, a_mostHits, a_leastMisses, a_endings, a_runsHolding, a_rounds, a_path, a_pathTop, a_cache, a_runMisses, a_runHits, upd (sw_f (ac_f s m age a_table) a_table 12) m 0, a_before, a_behind)) :
    ∀ d i, i + d = 12 → wX_accessAges__table_7 Q (nI m) age f_setBits f_placeCount f_made f_height f_pathCount f_greatestLength f_worstTime f_bestTime f_worstCount f_programBound f_endingCount f_chosen f_time (d + 1) (nI i) a_kind a_first a_second a_low a_high a_parent a_pathsOf a_lengthOf a_choicesOf a_stack a_worstPath a_sureness a_mostMisses a_mostHits a_leastMisses a_endings a_runsHolding a_rounds a_path a_pathTop a_cache a_runMisses a_runHits (sw_f (ac_f s m age a_table) a_table i) a_before a_behind := by
  have cm : (nI m).toNatClampNeg = m := nI_clamp (by omega)
  have im : vp_in (nI m) 13 := vp_in_nI (by omega) (by omega)
  intro d
  induction d with
  | zero =>
    intro i hi
    have hi : i = 12 := by omega
    subst hi
    refine br_t (by decide) ⟨im, um_u cm (br_c Hm Hh)⟩
  | succ d ih =>
    intro i hi
    have c : (nI i).toNatClampNeg = i := nI_clamp (by omega)
    have ii : vp_in (nI i) 13 := vp_in_nI (by omega) (by omega)
    have h12 : ¬ (12 : Int32) ≤ nI i := nI_ge (b := 12) (by omega) (by omega)
    by_cases e : i % s = m % s
    · have ev : sw_f (ac_f s m age a_table) a_table i (nI i).toNatClampNeg = a_table i := by rw [c, sw_at]
      by_cases l : age ≤ a_table i
      · have k : ac_f s m age a_table i = a_table i := by
          unfold ac_f; rw [if_neg (fun z => Int32.not_lt.mpr l z.2)]
        refine br_f h12 (br_t ((hb i m (by omega) hm).mpr e) ⟨ii, br_t (by rw [ev]; exact l) (nm_r (nI_1 i) ?_)⟩)
        rw [sw_k k]
        exact ih (i + 1) (by omega)
      · have k : sw_f (ac_f s m age a_table) a_table i (nI i).toNatClampNeg + 1 = ac_f s m age a_table i := by
          rw [ev]; unfold ac_f; rw [if_pos ⟨e, Int32.not_le.mp l⟩]
        refine br_f h12 (br_t ((hb i m (by omega) hm).mpr e) ⟨ii, br_f (by rw [ev]; exact l) ⟨ii, ii, um_u c (nm_r (nI_1 i) ?_)⟩⟩)
        rw [sw_u k]
        exact ih (i + 1) (by omega)
    · have k : ac_f s m age a_table i = a_table i := by
        unfold ac_f; rw [if_neg (fun z => e z.1)]
      refine br_f h12 (br_f (fun z => e ((hb i m (by omega) hm).mp z)) (nm_r (nI_1 i) ?_))
      rw [sw_k k]
      exact ih (i + 1) (by omega)
theorem xc_acctable {f_setBits : Int32} {f_placeCount : Int32} {f_made : Int32} {f_height : Int32} {f_pathCount : Int32} {f_greatestLength : Int32} {f_worstTime : Int32} {f_bestTime : Int32} {f_worstCount : Int32} {f_programBound : Int32} {f_endingCount : Int32} {f_chosen : Int32} {f_time : Int32} {a_kind : Nat → Int32} {a_first : Nat → Int32} {a_second : Nat → Int32} {a_low : Nat → Int32} {a_high : Nat → Int32} {a_parent : Nat → Int32} {a_pathsOf : Nat → Int32} {a_lengthOf : Nat → Int32} {a_choicesOf : Nat → Int32} {a_stack : Nat → Int32} {a_worstPath : Nat → Int32} {a_sureness : Nat → Int32} {a_mostMisses : Nat → Int32} {a_mostHits : Nat → Int32} {a_leastMisses : Nat → Int32} {a_endings : Nat → Int64} {a_runsHolding : Nat → Int32} {a_rounds : Nat → Int32} {a_path : Nat → Int32} {a_pathTop : Nat → Int32} {a_cache : Nat → Int32} {a_runMisses : Nat → Int32} {a_runHits : Nat → Int32} {a_table : Nat → Int32} {a_before : Nat → Int32} {a_behind : Nat → Int32} {Q : Int32 → SX → Prop} {s m : Nat} (hm : m < 12) (hb : ∀ x y, x < 12 → y < 12 → ((nI x &&& f_setBits) = (nI y &&& f_setBits) ↔ x % s = y % s))
    (Hh : ¬ f_placeCount ≤ a_table m → Q 1 (f_setBits, f_placeCount, f_made, f_height, f_pathCount, f_greatestLength, f_worstTime, f_bestTime, f_worstCount, f_programBound, f_endingCount, f_chosen, f_time, a_kind, a_first, a_second, a_low, a_high, a_parent, a_pathsOf, a_lengthOf, a_choicesOf, a_stack, a_worstPath, a_sureness, a_mostMisses, a_mostHits, a_leastMisses, a_endings, a_runsHolding, a_rounds, a_path, a_pathTop, a_cache, a_runMisses, a_runHits, ac_a s m a_table, a_before, a_behind)) (Hm : f_placeCount ≤ a_table m → Q 10 (f_setBits, f_placeCount, f_made, f_height, f_pathCount, f_greatestLength, f_worstTime, f_bestTime, f_worstCount, f_programBound, f_endingCount, f_chosen, f_time, a_kind, a_first, a_second, a_low, a_high, a_parent, a_pathsOf, a_lengthOf, a_choicesOf, a_stack, a_worstPath, a_sureness, a_mostMisses, a_mostHits, a_leastMisses, a_endings, a_runsHolding, a_rounds, a_path, a_pathTop, a_cache, a_runMisses, a_runHits, ac_a s m a_table, a_before, a_behind)) : wpX_accessAges__table Q (f_setBits, f_placeCount, f_made, f_height, f_pathCount, f_greatestLength, f_worstTime, f_bestTime, f_worstCount, f_programBound, f_endingCount, f_chosen, f_time, a_kind, a_first, a_second, a_low, a_high, a_parent, a_pathsOf, a_lengthOf, a_choicesOf, a_stack, a_worstPath, a_sureness, a_mostMisses, a_mostHits, a_leastMisses, a_endings, a_runsHolding, a_rounds, a_path, a_pathTop, a_cache, a_runMisses, a_runHits, a_table, a_before, a_behind) (nI m) := by
  have cm : (nI m).toNatClampNeg = m := nI_clamp (by omega)
  have im : vp_in (nI m) 13 := vp_in_nI (by omega) (by omega)
  have L := xc_looptable (a_table := a_table) hm hb Hh Hm 12 0 (by omega)
  rw [sw_0] at L
  exact And.intro im (nm_r (congrArg a_table cm) ⟨13, L⟩)
end
section
/-! X: the steps of a run -/
theorem cm_neg : ∀ n, n < 18 → nI n ^^^ (-1) < 0 := by decide
theorem cm_cm : ∀ n, n < 18 → (nI n ^^^ (-1)) ^^^ (-1) = nI n := by decide
theorem cm_pos : ∀ n, n < 18 → ¬ nI n < 0 := by decide
theorem cm_ne {n r : Nat} (hn : n < 18) (hr : r < 18) : ¬ nI n = nI r ^^^ (-1) := fun e => cm_pos n hn (by rw [e]; exact cm_neg r hr)
theorem cm_eq {n r : Nat} (hn : n < 18) (hr : r < 18) (h : nI n ^^^ (-1) = nI r ^^^ (-1)) : n = r := by
  have e : nI n = nI r := by rw [← cm_cm n hn, h, cm_cm r hr]
  exact (nI_eq (by omega) (by omega)).mp e
theorem xa_run {f_setBits : Int32} {f_placeCount : Int32} {f_made : Int32} {f_height : Int32} {f_pathCount : Int32} {f_greatestLength : Int32} {f_worstTime : Int32} {f_bestTime : Int32} {f_worstCount : Int32} {f_programBound : Int32} {f_endingCount : Int32} {f_chosen : Int32} {f_time : Int32} {a_kind : Nat → Int32} {a_first : Nat → Int32} {a_second : Nat → Int32} {a_low : Nat → Int32} {a_high : Nat → Int32} {a_parent : Nat → Int32} {a_pathsOf : Nat → Int32} {a_lengthOf : Nat → Int32} {a_choicesOf : Nat → Int32} {a_stack : Nat → Int32} {a_worstPath : Nat → Int32} {a_sureness : Nat → Int32} {a_mostMisses : Nat → Int32} {a_mostHits : Nat → Int32} {a_leastMisses : Nat → Int32} {a_endings : Nat → Int64} {a_runsHolding : Nat → Int32} {a_rounds : Nat → Int32} {a_path : Nat → Int32} {a_pathTop : Nat → Int32} {a_cache : Nat → Int32} {a_runMisses : Nat → Int32} {a_runHits : Nat → Int32} {a_table : Nat → Int32} {a_before : Nat → Int32} {a_behind : Nat → Int32} {P : SX → Prop} {s m n : Nat} (hn : n < 18) (hm : m < 12) (hb : ∀ x y, x < 12 → y < 12 → ((nI x &&& f_setBits) = (nI y &&& f_setBits) ↔ x % s = y % s)) (hf : a_first n = nI m)
    (Hh : ¬ f_placeCount ≤ a_cache m → P (f_setBits, f_placeCount, f_made, f_height, f_pathCount, f_greatestLength, f_worstTime, f_bestTime, f_worstCount, f_programBound, f_endingCount, f_chosen, f_time + 1, a_kind, a_first, a_second, a_low, a_high, a_parent, a_pathsOf, a_lengthOf, a_choicesOf, a_stack, a_worstPath, a_sureness, a_mostMisses, a_mostHits, a_leastMisses, a_endings, a_runsHolding, a_rounds, a_path, a_pathTop, ac_a s m a_cache, a_runMisses, upd a_runHits n (a_runHits n + 1), a_table, a_before, a_behind))
    (Hm : f_placeCount ≤ a_cache m → P (f_setBits, f_placeCount, f_made, f_height, f_pathCount, f_greatestLength, f_worstTime, f_bestTime, f_worstCount, f_programBound, f_endingCount, f_chosen, f_time + 10, a_kind, a_first, a_second, a_low, a_high, a_parent, a_pathsOf, a_lengthOf, a_choicesOf, a_stack, a_worstPath, a_sureness, a_mostMisses, a_mostHits, a_leastMisses, a_endings, a_runsHolding, a_rounds, a_path, a_pathTop, ac_a s m a_cache, upd a_runMisses n (a_runMisses n + 1), a_runHits, a_table, a_before, a_behind)) : wpX_accessInRun P (f_setBits, f_placeCount, f_made, f_height, f_pathCount, f_greatestLength, f_worstTime, f_bestTime, f_worstCount, f_programBound, f_endingCount, f_chosen, f_time, a_kind, a_first, a_second, a_low, a_high, a_parent, a_pathsOf, a_lengthOf, a_choicesOf, a_stack, a_worstPath, a_sureness, a_mostMisses, a_mostHits, a_leastMisses, a_endings, a_runsHolding, a_rounds, a_path, a_pathTop, a_cache, a_runMisses, a_runHits, a_table, a_before, a_behind) (nI n) := by
  have c : (nI n).toNatClampNeg = n := nI_clamp (by omega)
  have i : vp_in (nI n) 18 := vp_in_nI hn (by omega)
  refine And.intro i ?_
  rw [c, hf]
  refine xc_acccache (s := s) hm hb (fun h => ?_) (fun h => ?_)
  · exact nm_e (br_t rfl ⟨i, i, nm_e (Hh h)⟩)
  · exact nm_e (br_f (by decide) ⟨i, i, nm_e (Hm h)⟩)
theorem xh_choose {f_setBits : Int32} {f_placeCount : Int32} {f_made : Int32} {f_height : Int32} {f_pathCount : Int32} {f_greatestLength : Int32} {f_worstTime : Int32} {f_bestTime : Int32} {f_worstCount : Int32} {f_programBound : Int32} {f_endingCount : Int32} {f_chosen : Int32} {f_time : Int32} {a_kind : Nat → Int32} {a_first : Nat → Int32} {a_second : Nat → Int32} {a_low : Nat → Int32} {a_high : Nat → Int32} {a_parent : Nat → Int32} {a_pathsOf : Nat → Int32} {a_lengthOf : Nat → Int32} {a_choicesOf : Nat → Int32} {a_stack : Nat → Int32} {a_worstPath : Nat → Int32} {a_sureness : Nat → Int32} {a_mostMisses : Nat → Int32} {a_mostHits : Nat → Int32} {a_leastMisses : Nat → Int32} {a_endings : Nat → Int64} {a_runsHolding : Nat → Int32} {a_rounds : Nat → Int32} {a_path : Nat → Int32} {a_pathTop : Nat → Int32} {a_cache : Nat → Int32} {a_runMisses : Nat → Int32} {a_runHits : Nat → Int32} {a_table : Nat → Int32} {a_before : Nat → Int32} {a_behind : Nat → Int32} {Q : Int32 → SX → Prop} {n t : Nat} (hn : n < 18) (ht : t < 20) (hc : f_chosen = nI t) (hl : ¬ a_low n = a_high n)
    (H1 : a_path t = -4 → Q (a_low n) (f_setBits, f_placeCount, f_made, f_height, f_pathCount, f_greatestLength, f_worstTime, f_bestTime, f_worstCount, f_programBound, f_endingCount, nI (t + 1), f_time, a_kind, a_first, a_second, a_low, a_high, a_parent, a_pathsOf, a_lengthOf, a_choicesOf, a_stack, a_worstPath, a_sureness, a_mostMisses, a_mostHits, a_leastMisses, a_endings, a_runsHolding, a_rounds, upd a_path t (a_low n), upd a_pathTop t (a_high n), a_cache, a_runMisses, a_runHits, a_table, a_before, a_behind))
    (H2 : ¬ a_path t = -4 → Q (a_path t) (f_setBits, f_placeCount, f_made, f_height, f_pathCount, f_greatestLength, f_worstTime, f_bestTime, f_worstCount, f_programBound, f_endingCount, nI (t + 1), f_time, a_kind, a_first, a_second, a_low, a_high, a_parent, a_pathsOf, a_lengthOf, a_choicesOf, a_stack, a_worstPath, a_sureness, a_mostMisses, a_mostHits, a_leastMisses, a_endings, a_runsHolding, a_rounds, a_path, upd a_pathTop t (a_high n), a_cache, a_runMisses, a_runHits, a_table, a_before, a_behind)) : wpX_choose Q (f_setBits, f_placeCount, f_made, f_height, f_pathCount, f_greatestLength, f_worstTime, f_bestTime, f_worstCount, f_programBound, f_endingCount, f_chosen, f_time, a_kind, a_first, a_second, a_low, a_high, a_parent, a_pathsOf, a_lengthOf, a_choicesOf, a_stack, a_worstPath, a_sureness, a_mostMisses, a_mostHits, a_leastMisses, a_endings, a_runsHolding, a_rounds, a_path, a_pathTop, a_cache, a_runMisses, a_runHits, a_table, a_before, a_behind) (nI n) := by
  subst hc
  have c : (nI n).toNatClampNeg = n := nI_clamp (by omega)
  have i : vp_in (nI n) 18 := vp_in_nI hn (by omega)
  have ct : (nI t).toNatClampNeg = t := nI_clamp (by omega)
  have it : vp_in (nI t) 20 := vp_in_nI ht (by omega)
  have l20 : nI t < 20 := nI_lt (b := 20) ht (by omega)
  refine And.intro i (And.intro i (br_f (by rw [c]; exact hl) (br_t l20 ⟨it, br_c (fun h => ⟨i, it, ?_⟩) (fun h => ?_)⟩)))
  · rw [ct] at h
    rw [c, ct]
    refine nm_e (And.intro it (nm_r (e' := a_low n) (by rw [ct, us_s]) ⟨i, it, ?_⟩))
    rw [c, ct]
    exact nm_e (nm_r (nI_1 t) (H1 h))
  · rw [ct] at h
    refine And.intro it (nm_r (e' := a_path t) (by rw [ct]) ⟨i, it, ?_⟩)
    rw [c, ct]
    exact nm_e (nm_r (nI_1 t) (H2 h))
theorem xh_fixed {f_setBits : Int32} {f_placeCount : Int32} {f_made : Int32} {f_height : Int32} {f_pathCount : Int32} {f_greatestLength : Int32} {f_worstTime : Int32} {f_bestTime : Int32} {f_worstCount : Int32} {f_programBound : Int32} {f_endingCount : Int32} {f_chosen : Int32} {f_time : Int32} {a_kind : Nat → Int32} {a_first : Nat → Int32} {a_second : Nat → Int32} {a_low : Nat → Int32} {a_high : Nat → Int32} {a_parent : Nat → Int32} {a_pathsOf : Nat → Int32} {a_lengthOf : Nat → Int32} {a_choicesOf : Nat → Int32} {a_stack : Nat → Int32} {a_worstPath : Nat → Int32} {a_sureness : Nat → Int32} {a_mostMisses : Nat → Int32} {a_mostHits : Nat → Int32} {a_leastMisses : Nat → Int32} {a_endings : Nat → Int64} {a_runsHolding : Nat → Int32} {a_rounds : Nat → Int32} {a_path : Nat → Int32} {a_pathTop : Nat → Int32} {a_cache : Nat → Int32} {a_runMisses : Nat → Int32} {a_runHits : Nat → Int32} {a_table : Nat → Int32} {a_before : Nat → Int32} {a_behind : Nat → Int32} {Q : Int32 → SX → Prop} {n : Nat} (hn : n < 18) (hl : a_low n = a_high n) (H : Q (a_low n) (f_setBits, f_placeCount, f_made, f_height, f_pathCount, f_greatestLength, f_worstTime, f_bestTime, f_worstCount, f_programBound, f_endingCount, f_chosen, f_time, a_kind, a_first, a_second, a_low, a_high, a_parent, a_pathsOf, a_lengthOf, a_choicesOf, a_stack, a_worstPath, a_sureness, a_mostMisses, a_mostHits, a_leastMisses, a_endings, a_runsHolding, a_rounds, a_path, a_pathTop, a_cache, a_runMisses, a_runHits, a_table, a_before, a_behind)) : wpX_choose Q (f_setBits, f_placeCount, f_made, f_height, f_pathCount, f_greatestLength, f_worstTime, f_bestTime, f_worstCount, f_programBound, f_endingCount, f_chosen, f_time, a_kind, a_first, a_second, a_low, a_high, a_parent, a_pathsOf, a_lengthOf, a_choicesOf, a_stack, a_worstPath, a_sureness, a_mostMisses, a_mostHits, a_leastMisses, a_endings, a_runsHolding, a_rounds, a_path, a_pathTop, a_cache, a_runMisses, a_runHits, a_table, a_before, a_behind) (nI n) := by
  have c : (nI n).toNatClampNeg = n := nI_clamp (by omega)
  have i : vp_in (nI n) 18 := vp_in_nI hn (by omega)
  exact And.intro i (And.intro i (br_t (by rw [c]; exact hl) ⟨i, by rw [c]; exact H⟩))
theorem xn_round {f_setBits : Int32} {f_placeCount : Int32} {f_made : Int32} {f_height : Int32} {f_pathCount : Int32} {f_greatestLength : Int32} {f_worstTime : Int32} {f_bestTime : Int32} {f_worstCount : Int32} {f_programBound : Int32} {f_endingCount : Int32} {f_chosen : Int32} {f_time : Int32} {a_kind : Nat → Int32} {a_first : Nat → Int32} {a_second : Nat → Int32} {a_low : Nat → Int32} {a_high : Nat → Int32} {a_parent : Nat → Int32} {a_pathsOf : Nat → Int32} {a_lengthOf : Nat → Int32} {a_choicesOf : Nat → Int32} {a_stack : Nat → Int32} {a_worstPath : Nat → Int32} {a_sureness : Nat → Int32} {a_mostMisses : Nat → Int32} {a_mostHits : Nat → Int32} {a_leastMisses : Nat → Int32} {a_endings : Nat → Int64} {a_runsHolding : Nat → Int32} {a_rounds : Nat → Int32} {a_path : Nat → Int32} {a_pathTop : Nat → Int32} {a_cache : Nat → Int32} {a_runMisses : Nat → Int32} {a_runHits : Nat → Int32} {a_table : Nat → Int32} {a_before : Nat → Int32} {a_behind : Nat → Int32} {Q : Int32 → SX → Prop} {n k : Nat} (hn : n < 18) (hk : a_rounds n = nI k) (hk4 : k ≤ 4)
    (H0 : k = 0 → Q (nI n ^^^ (-1)) (f_setBits, f_placeCount, f_made, f_height, f_pathCount, f_greatestLength, f_worstTime, f_bestTime, f_worstCount, f_programBound, f_endingCount, f_chosen, f_time, a_kind, a_first, a_second, a_low, a_high, a_parent, a_pathsOf, a_lengthOf, a_choicesOf, a_stack, a_worstPath, a_sureness, a_mostMisses, a_mostHits, a_leastMisses, a_endings, a_runsHolding, a_rounds, a_path, a_pathTop, a_cache, a_runMisses, a_runHits, a_table, a_before, a_behind)) (H1 : ∀ j, k = j + 1 → Q (a_first n) (f_setBits, f_placeCount, f_made, f_height, f_pathCount, f_greatestLength, f_worstTime, f_bestTime, f_worstCount, f_programBound, f_endingCount, f_chosen, f_time, a_kind, a_first, a_second, a_low, a_high, a_parent, a_pathsOf, a_lengthOf, a_choicesOf, a_stack, a_worstPath, a_sureness, a_mostMisses, a_mostHits, a_leastMisses, a_endings, a_runsHolding, upd a_rounds n (nI j), a_path, a_pathTop, a_cache, a_runMisses, a_runHits, a_table, a_before, a_behind)) : wpX_nextRoundInRun Q (f_setBits, f_placeCount, f_made, f_height, f_pathCount, f_greatestLength, f_worstTime, f_bestTime, f_worstCount, f_programBound, f_endingCount, f_chosen, f_time, a_kind, a_first, a_second, a_low, a_high, a_parent, a_pathsOf, a_lengthOf, a_choicesOf, a_stack, a_worstPath, a_sureness, a_mostMisses, a_mostHits, a_leastMisses, a_endings, a_runsHolding, a_rounds, a_path, a_pathTop, a_cache, a_runMisses, a_runHits, a_table, a_before, a_behind) (nI n) := by
  have c : (nI n).toNatClampNeg = n := nI_clamp (by omega)
  have i : vp_in (nI n) 18 := vp_in_nI hn (by omega)
  refine And.intro i ?_
  rw [c, hk]
  cases k with
  | zero => exact br_t rfl (H0 rfl)
  | succ j =>
    refine br_f (nI_ne0 (by omega) (by omega)) ⟨i, i, ?_⟩
    rw [nI_pred]
    exact nm_e ⟨i, H1 j rfl⟩
section
variable {Q : Int32 → SX → Prop} {n : Nat}
theorem xe_acc {f_setBits : Int32} {f_placeCount : Int32} {f_made : Int32} {f_height : Int32} {f_pathCount : Int32} {f_greatestLength : Int32} {f_worstTime : Int32} {f_bestTime : Int32} {f_worstCount : Int32} {f_programBound : Int32} {f_endingCount : Int32} {f_chosen : Int32} {f_time : Int32} {a_kind : Nat → Int32} {a_first : Nat → Int32} {a_second : Nat → Int32} {a_low : Nat → Int32} {a_high : Nat → Int32} {a_parent : Nat → Int32} {a_pathsOf : Nat → Int32} {a_lengthOf : Nat → Int32} {a_choicesOf : Nat → Int32} {a_stack : Nat → Int32} {a_worstPath : Nat → Int32} {a_sureness : Nat → Int32} {a_mostMisses : Nat → Int32} {a_mostHits : Nat → Int32} {a_leastMisses : Nat → Int32} {a_endings : Nat → Int64} {a_runsHolding : Nat → Int32} {a_rounds : Nat → Int32} {a_path : Nat → Int32} {a_pathTop : Nat → Int32} {a_cache : Nat → Int32} {a_runMisses : Nat → Int32} {a_runHits : Nat → Int32} {a_table : Nat → Int32} {a_before : Nat → Int32} {a_behind : Nat → Int32} {s m : Nat} (hn : n < 18) (hk : a_kind n = 0) (hm : m < 12) (hb : ∀ x y, x < 12 → y < 12 → ((nI x &&& f_setBits) = (nI y &&& f_setBits) ↔ x % s = y % s)) (hf : a_first n = nI m)
    (Hh : ¬ f_placeCount ≤ a_cache m → Q (nI n ^^^ (-1)) (f_setBits, f_placeCount, f_made, f_height, f_pathCount, f_greatestLength, f_worstTime, f_bestTime, f_worstCount, f_programBound, f_endingCount, f_chosen, f_time + 1, a_kind, a_first, a_second, a_low, a_high, a_parent, a_pathsOf, a_lengthOf, a_choicesOf, a_stack, a_worstPath, a_sureness, a_mostMisses, a_mostHits, a_leastMisses, a_endings, a_runsHolding, a_rounds, a_path, a_pathTop, ac_a s m a_cache, a_runMisses, upd a_runHits n (a_runHits n + 1), a_table, a_before, a_behind))
    (Hm : f_placeCount ≤ a_cache m → Q (nI n ^^^ (-1)) (f_setBits, f_placeCount, f_made, f_height, f_pathCount, f_greatestLength, f_worstTime, f_bestTime, f_worstCount, f_programBound, f_endingCount, f_chosen, f_time + 10, a_kind, a_first, a_second, a_low, a_high, a_parent, a_pathsOf, a_lengthOf, a_choicesOf, a_stack, a_worstPath, a_sureness, a_mostMisses, a_mostHits, a_leastMisses, a_endings, a_runsHolding, a_rounds, a_path, a_pathTop, ac_a s m a_cache, upd a_runMisses n (a_runMisses n + 1), a_runHits, a_table, a_before, a_behind)) : wpX_enterInRun Q (f_setBits, f_placeCount, f_made, f_height, f_pathCount, f_greatestLength, f_worstTime, f_bestTime, f_worstCount, f_programBound, f_endingCount, f_chosen, f_time, a_kind, a_first, a_second, a_low, a_high, a_parent, a_pathsOf, a_lengthOf, a_choicesOf, a_stack, a_worstPath, a_sureness, a_mostMisses, a_mostHits, a_leastMisses, a_endings, a_runsHolding, a_rounds, a_path, a_pathTop, a_cache, a_runMisses, a_runHits, a_table, a_before, a_behind) (nI n) := by
  have c : (nI n).toNatClampNeg = n := nI_clamp (by omega)
  have i : vp_in (nI n) 18 := vp_in_nI hn (by omega)
  refine And.intro i (nm_r (e' := 0) (by rw [c]; exact hk) (br_f (by decide) (br_f (by decide) (br_t rfl ?_))))
  exact xa_run (s := s) hn hm hb hf Hh Hm
theorem xe_work {f_setBits : Int32} {f_placeCount : Int32} {f_made : Int32} {f_height : Int32} {f_pathCount : Int32} {f_greatestLength : Int32} {f_worstTime : Int32} {f_bestTime : Int32} {f_worstCount : Int32} {f_programBound : Int32} {f_endingCount : Int32} {f_chosen : Int32} {f_time : Int32} {a_kind : Nat → Int32} {a_first : Nat → Int32} {a_second : Nat → Int32} {a_low : Nat → Int32} {a_high : Nat → Int32} {a_parent : Nat → Int32} {a_pathsOf : Nat → Int32} {a_lengthOf : Nat → Int32} {a_choicesOf : Nat → Int32} {a_stack : Nat → Int32} {a_worstPath : Nat → Int32} {a_sureness : Nat → Int32} {a_mostMisses : Nat → Int32} {a_mostHits : Nat → Int32} {a_leastMisses : Nat → Int32} {a_endings : Nat → Int64} {a_runsHolding : Nat → Int32} {a_rounds : Nat → Int32} {a_path : Nat → Int32} {a_pathTop : Nat → Int32} {a_cache : Nat → Int32} {a_runMisses : Nat → Int32} {a_runHits : Nat → Int32} {a_table : Nat → Int32} {a_before : Nat → Int32} {a_behind : Nat → Int32} (hn : n < 18) (hk : a_kind n = 1) (H : Q (nI n ^^^ (-1)) (f_setBits, f_placeCount, f_made, f_height, f_pathCount, f_greatestLength, f_worstTime, f_bestTime, f_worstCount, f_programBound, f_endingCount, f_chosen, f_time + a_first n, a_kind, a_first, a_second, a_low, a_high, a_parent, a_pathsOf, a_lengthOf, a_choicesOf, a_stack, a_worstPath, a_sureness, a_mostMisses, a_mostHits, a_leastMisses, a_endings, a_runsHolding, a_rounds, a_path, a_pathTop, a_cache, a_runMisses, a_runHits, a_table, a_before, a_behind)) : wpX_enterInRun Q (f_setBits, f_placeCount, f_made, f_height, f_pathCount, f_greatestLength, f_worstTime, f_bestTime, f_worstCount, f_programBound, f_endingCount, f_chosen, f_time, a_kind, a_first, a_second, a_low, a_high, a_parent, a_pathsOf, a_lengthOf, a_choicesOf, a_stack, a_worstPath, a_sureness, a_mostMisses, a_mostHits, a_leastMisses, a_endings, a_runsHolding, a_rounds, a_path, a_pathTop, a_cache, a_runMisses, a_runHits, a_table, a_before, a_behind) (nI n) := by
  have c : (nI n).toNatClampNeg = n := nI_clamp (by omega)
  have i : vp_in (nI n) 18 := vp_in_nI hn (by omega)
  exact And.intro i (nm_r (e' := 1) (by rw [c]; exact hk) (br_f (by decide) (br_f (by decide) (br_f (by decide) (br_t rfl ⟨i, nm_r (e' := f_time + a_first n) (by rw [c]) H⟩)))))
theorem xe_seq {f_setBits : Int32} {f_placeCount : Int32} {f_made : Int32} {f_height : Int32} {f_pathCount : Int32} {f_greatestLength : Int32} {f_worstTime : Int32} {f_bestTime : Int32} {f_worstCount : Int32} {f_programBound : Int32} {f_endingCount : Int32} {f_chosen : Int32} {f_time : Int32} {a_kind : Nat → Int32} {a_first : Nat → Int32} {a_second : Nat → Int32} {a_low : Nat → Int32} {a_high : Nat → Int32} {a_parent : Nat → Int32} {a_pathsOf : Nat → Int32} {a_lengthOf : Nat → Int32} {a_choicesOf : Nat → Int32} {a_stack : Nat → Int32} {a_worstPath : Nat → Int32} {a_sureness : Nat → Int32} {a_mostMisses : Nat → Int32} {a_mostHits : Nat → Int32} {a_leastMisses : Nat → Int32} {a_endings : Nat → Int64} {a_runsHolding : Nat → Int32} {a_rounds : Nat → Int32} {a_path : Nat → Int32} {a_pathTop : Nat → Int32} {a_cache : Nat → Int32} {a_runMisses : Nat → Int32} {a_runHits : Nat → Int32} {a_table : Nat → Int32} {a_before : Nat → Int32} {a_behind : Nat → Int32} (hn : n < 18) (hk : a_kind n = 2) (H : Q (a_first n) (f_setBits, f_placeCount, f_made, f_height, f_pathCount, f_greatestLength, f_worstTime, f_bestTime, f_worstCount, f_programBound, f_endingCount, f_chosen, f_time, a_kind, a_first, a_second, a_low, a_high, a_parent, a_pathsOf, a_lengthOf, a_choicesOf, a_stack, a_worstPath, a_sureness, a_mostMisses, a_mostHits, a_leastMisses, a_endings, a_runsHolding, a_rounds, a_path, a_pathTop, a_cache, a_runMisses, a_runHits, a_table, a_before, a_behind)) : wpX_enterInRun Q (f_setBits, f_placeCount, f_made, f_height, f_pathCount, f_greatestLength, f_worstTime, f_bestTime, f_worstCount, f_programBound, f_endingCount, f_chosen, f_time, a_kind, a_first, a_second, a_low, a_high, a_parent, a_pathsOf, a_lengthOf, a_choicesOf, a_stack, a_worstPath, a_sureness, a_mostMisses, a_mostHits, a_leastMisses, a_endings, a_runsHolding, a_rounds, a_path, a_pathTop, a_cache, a_runMisses, a_runHits, a_table, a_before, a_behind) (nI n) := by
  have c : (nI n).toNatClampNeg = n := nI_clamp (by omega)
  have i : vp_in (nI n) 18 := vp_in_nI hn (by omega)
  exact And.intro i (nm_r (e' := 2) (by rw [c]; exact hk) (br_f (by decide) (br_f (by decide) (br_f (by decide) (br_f (by decide) (br_t rfl ⟨i, by rw [c]; exact H⟩))))))
theorem xe_if {f_setBits : Int32} {f_placeCount : Int32} {f_made : Int32} {f_height : Int32} {f_pathCount : Int32} {f_greatestLength : Int32} {f_worstTime : Int32} {f_bestTime : Int32} {f_worstCount : Int32} {f_programBound : Int32} {f_endingCount : Int32} {f_chosen : Int32} {f_time : Int32} {a_kind : Nat → Int32} {a_first : Nat → Int32} {a_second : Nat → Int32} {a_low : Nat → Int32} {a_high : Nat → Int32} {a_parent : Nat → Int32} {a_pathsOf : Nat → Int32} {a_lengthOf : Nat → Int32} {a_choicesOf : Nat → Int32} {a_stack : Nat → Int32} {a_worstPath : Nat → Int32} {a_sureness : Nat → Int32} {a_mostMisses : Nat → Int32} {a_mostHits : Nat → Int32} {a_leastMisses : Nat → Int32} {a_endings : Nat → Int64} {a_runsHolding : Nat → Int32} {a_rounds : Nat → Int32} {a_path : Nat → Int32} {a_pathTop : Nat → Int32} {a_cache : Nat → Int32} {a_runMisses : Nat → Int32} {a_runHits : Nat → Int32} {a_table : Nat → Int32} {a_before : Nat → Int32} {a_behind : Nat → Int32} {t : Nat} (hn : n < 18) (hk : a_kind n = 3) (ht : t < 20) (hc : f_chosen = nI t) (hl : ¬ a_low n = a_high n)
    (H1 : a_path t = -4 → Q (if a_low n = 0 then a_first n else a_second n) (f_setBits, f_placeCount, f_made, f_height, f_pathCount, f_greatestLength, f_worstTime, f_bestTime, f_worstCount, f_programBound, f_endingCount, nI (t + 1), f_time, a_kind, a_first, a_second, a_low, a_high, a_parent, a_pathsOf, a_lengthOf, a_choicesOf, a_stack, a_worstPath, a_sureness, a_mostMisses, a_mostHits, a_leastMisses, a_endings, a_runsHolding, a_rounds, upd a_path t (a_low n), upd a_pathTop t (a_high n), a_cache, a_runMisses, a_runHits, a_table, a_before, a_behind))
    (H2 : ¬ a_path t = -4 → Q (if a_path t = 0 then a_first n else a_second n) (f_setBits, f_placeCount, f_made, f_height, f_pathCount, f_greatestLength, f_worstTime, f_bestTime, f_worstCount, f_programBound, f_endingCount, nI (t + 1), f_time, a_kind, a_first, a_second, a_low, a_high, a_parent, a_pathsOf, a_lengthOf, a_choicesOf, a_stack, a_worstPath, a_sureness, a_mostMisses, a_mostHits, a_leastMisses, a_endings, a_runsHolding, a_rounds, a_path, upd a_pathTop t (a_high n), a_cache, a_runMisses, a_runHits, a_table, a_before, a_behind)) : wpX_enterInRun Q (f_setBits, f_placeCount, f_made, f_height, f_pathCount, f_greatestLength, f_worstTime, f_bestTime, f_worstCount, f_programBound, f_endingCount, f_chosen, f_time, a_kind, a_first, a_second, a_low, a_high, a_parent, a_pathsOf, a_lengthOf, a_choicesOf, a_stack, a_worstPath, a_sureness, a_mostMisses, a_mostHits, a_leastMisses, a_endings, a_runsHolding, a_rounds, a_path, a_pathTop, a_cache, a_runMisses, a_runHits, a_table, a_before, a_behind) (nI n) := by
  have c : (nI n).toNatClampNeg = n := nI_clamp (by omega)
  have i : vp_in (nI n) 18 := vp_in_nI hn (by omega)
  refine And.intro i (nm_r (e' := 3) (by rw [c]; exact hk) (br_f (by decide) (br_f (by decide) (br_f (by decide) (br_f (by decide) (br_f (by decide) (br_t rfl ?_)))))))
  refine xh_choose hn ht hc hl (fun h => br_c (fun z => ⟨i, ?_⟩) (fun z => ⟨i, ?_⟩)) (fun h => br_c (fun z => ⟨i, ?_⟩) (fun z => ⟨i, ?_⟩))
  · have w := H1 h
    rw [if_pos z] at w; rw [c]; exact w
  · have w := H1 h
    rw [if_neg z] at w; rw [c]; exact w
  · have w := H2 h
    rw [if_pos z] at w; rw [c]; exact w
  · have w := H2 h
    rw [if_neg z] at w; rw [c]; exact w
theorem xe_loop {f_setBits : Int32} {f_placeCount : Int32} {f_made : Int32} {f_height : Int32} {f_pathCount : Int32} {f_greatestLength : Int32} {f_worstTime : Int32} {f_bestTime : Int32} {f_worstCount : Int32} {f_programBound : Int32} {f_endingCount : Int32} {f_chosen : Int32} {f_time : Int32} {a_kind : Nat → Int32} {a_first : Nat → Int32} {a_second : Nat → Int32} {a_low : Nat → Int32} {a_high : Nat → Int32} {a_parent : Nat → Int32} {a_pathsOf : Nat → Int32} {a_lengthOf : Nat → Int32} {a_choicesOf : Nat → Int32} {a_stack : Nat → Int32} {a_worstPath : Nat → Int32} {a_sureness : Nat → Int32} {a_mostMisses : Nat → Int32} {a_mostHits : Nat → Int32} {a_leastMisses : Nat → Int32} {a_endings : Nat → Int64} {a_runsHolding : Nat → Int32} {a_rounds : Nat → Int32} {a_path : Nat → Int32} {a_pathTop : Nat → Int32} {a_cache : Nat → Int32} {a_runMisses : Nat → Int32} {a_runHits : Nat → Int32} {a_table : Nat → Int32} {a_before : Nat → Int32} {a_behind : Nat → Int32} {t : Nat} (hn : n < 18) (hk : a_kind n = 4) (ht : t < 20) (hc : f_chosen = nI t) (hl : ¬ a_low n = a_high n) {k : Nat} (hk4 : k ≤ 4)
    (H1 : a_path t = -4 → a_low n = nI k ∧ (k = 0 → Q (nI n ^^^ (-1)) (f_setBits, f_placeCount, f_made, f_height, f_pathCount, f_greatestLength, f_worstTime, f_bestTime, f_worstCount, f_programBound, f_endingCount, nI (t + 1), f_time, a_kind, a_first, a_second, a_low, a_high, a_parent, a_pathsOf, a_lengthOf, a_choicesOf, a_stack, a_worstPath, a_sureness, a_mostMisses, a_mostHits, a_leastMisses, a_endings, a_runsHolding, upd a_rounds n 0, upd a_path t (a_low n), upd a_pathTop t (a_high n), a_cache, a_runMisses, a_runHits, a_table, a_before, a_behind)) ∧ (∀ j, k = j + 1 → Q (a_first n) (f_setBits, f_placeCount, f_made, f_height, f_pathCount, f_greatestLength, f_worstTime, f_bestTime, f_worstCount, f_programBound, f_endingCount, nI (t + 1), f_time, a_kind, a_first, a_second, a_low, a_high, a_parent, a_pathsOf, a_lengthOf, a_choicesOf, a_stack, a_worstPath, a_sureness, a_mostMisses, a_mostHits, a_leastMisses, a_endings, a_runsHolding, upd (upd a_rounds n (nI k)) n (nI j), upd a_path t (a_low n), upd a_pathTop t (a_high n), a_cache, a_runMisses, a_runHits, a_table, a_before, a_behind)))
    (H2 : ¬ a_path t = -4 → a_path t = nI k ∧ (k = 0 → Q (nI n ^^^ (-1)) (f_setBits, f_placeCount, f_made, f_height, f_pathCount, f_greatestLength, f_worstTime, f_bestTime, f_worstCount, f_programBound, f_endingCount, nI (t + 1), f_time, a_kind, a_first, a_second, a_low, a_high, a_parent, a_pathsOf, a_lengthOf, a_choicesOf, a_stack, a_worstPath, a_sureness, a_mostMisses, a_mostHits, a_leastMisses, a_endings, a_runsHolding, upd a_rounds n 0, a_path, upd a_pathTop t (a_high n), a_cache, a_runMisses, a_runHits, a_table, a_before, a_behind)) ∧ (∀ j, k = j + 1 → Q (a_first n) (f_setBits, f_placeCount, f_made, f_height, f_pathCount, f_greatestLength, f_worstTime, f_bestTime, f_worstCount, f_programBound, f_endingCount, nI (t + 1), f_time, a_kind, a_first, a_second, a_low, a_high, a_parent, a_pathsOf, a_lengthOf, a_choicesOf, a_stack, a_worstPath, a_sureness, a_mostMisses, a_mostHits, a_leastMisses, a_endings, a_runsHolding, upd (upd a_rounds n (nI k)) n (nI j), a_path, upd a_pathTop t (a_high n), a_cache, a_runMisses, a_runHits, a_table, a_before, a_behind))) : wpX_enterInRun Q (f_setBits, f_placeCount, f_made, f_height, f_pathCount, f_greatestLength, f_worstTime, f_bestTime, f_worstCount, f_programBound, f_endingCount, f_chosen, f_time, a_kind, a_first, a_second, a_low, a_high, a_parent, a_pathsOf, a_lengthOf, a_choicesOf, a_stack, a_worstPath, a_sureness, a_mostMisses, a_mostHits, a_leastMisses, a_endings, a_runsHolding, a_rounds, a_path, a_pathTop, a_cache, a_runMisses, a_runHits, a_table, a_before, a_behind) (nI n) := by
  have c : (nI n).toNatClampNeg = n := nI_clamp (by omega)
  have i : vp_in (nI n) 18 := vp_in_nI hn (by omega)
  refine And.intro i (nm_r (e' := 4) (by rw [c]; exact hk) (br_f (by decide) (br_t (by decide) ?_)))
  refine xh_choose hn ht hc hl (fun h => ⟨i, ?_⟩) (fun h => ⟨i, ?_⟩)
  · obtain ⟨e, w0, w1⟩ := H1 h
    rw [c]
    refine nm_e (xn_round (k := k) hn (by rw [us_s]; exact e) hk4 (fun z => ?_) (fun j z => ?_))
    · have w := w0 z
      subst z
      rw [e] at w ⊢
      exact w
    · have w := w1 j z
      rw [e] at w ⊢
      exact w
  · obtain ⟨e, w0, w1⟩ := H2 h
    rw [c]
    refine nm_e (xn_round (k := k) hn (by rw [us_s]; exact e) hk4 (fun z => ?_) (fun j z => ?_))
    · have w := w0 z
      subst z
      rw [e]
      exact w
    · have w := w1 j z
      rw [e]
      exact w
theorem xe_fix {f_setBits : Int32} {f_placeCount : Int32} {f_made : Int32} {f_height : Int32} {f_pathCount : Int32} {f_greatestLength : Int32} {f_worstTime : Int32} {f_bestTime : Int32} {f_worstCount : Int32} {f_programBound : Int32} {f_endingCount : Int32} {f_chosen : Int32} {f_time : Int32} {a_kind : Nat → Int32} {a_first : Nat → Int32} {a_second : Nat → Int32} {a_low : Nat → Int32} {a_high : Nat → Int32} {a_parent : Nat → Int32} {a_pathsOf : Nat → Int32} {a_lengthOf : Nat → Int32} {a_choicesOf : Nat → Int32} {a_stack : Nat → Int32} {a_worstPath : Nat → Int32} {a_sureness : Nat → Int32} {a_mostMisses : Nat → Int32} {a_mostHits : Nat → Int32} {a_leastMisses : Nat → Int32} {a_endings : Nat → Int64} {a_runsHolding : Nat → Int32} {a_rounds : Nat → Int32} {a_path : Nat → Int32} {a_pathTop : Nat → Int32} {a_cache : Nat → Int32} {a_runMisses : Nat → Int32} {a_runHits : Nat → Int32} {a_table : Nat → Int32} {a_before : Nat → Int32} {a_behind : Nat → Int32} (hn : n < 18) (hk : a_kind n = 4) (hl : a_low n = a_high n) {k : Nat} (hk4 : k ≤ 4) (e : a_low n = nI k)
    (w0 : k = 0 → Q (nI n ^^^ (-1)) (f_setBits, f_placeCount, f_made, f_height, f_pathCount, f_greatestLength, f_worstTime, f_bestTime, f_worstCount, f_programBound, f_endingCount, f_chosen, f_time, a_kind, a_first, a_second, a_low, a_high, a_parent, a_pathsOf, a_lengthOf, a_choicesOf, a_stack, a_worstPath, a_sureness, a_mostMisses, a_mostHits, a_leastMisses, a_endings, a_runsHolding, upd a_rounds n 0, a_path, a_pathTop, a_cache, a_runMisses, a_runHits, a_table, a_before, a_behind)) (w1 : ∀ j, k = j + 1 → Q (a_first n) (f_setBits, f_placeCount, f_made, f_height, f_pathCount, f_greatestLength, f_worstTime, f_bestTime, f_worstCount, f_programBound, f_endingCount, f_chosen, f_time, a_kind, a_first, a_second, a_low, a_high, a_parent, a_pathsOf, a_lengthOf, a_choicesOf, a_stack, a_worstPath, a_sureness, a_mostMisses, a_mostHits, a_leastMisses, a_endings, a_runsHolding, upd (upd a_rounds n (nI k)) n (nI j), a_path, a_pathTop, a_cache, a_runMisses, a_runHits, a_table, a_before, a_behind)) : wpX_enterInRun Q (f_setBits, f_placeCount, f_made, f_height, f_pathCount, f_greatestLength, f_worstTime, f_bestTime, f_worstCount, f_programBound, f_endingCount, f_chosen, f_time, a_kind, a_first, a_second, a_low, a_high, a_parent, a_pathsOf, a_lengthOf, a_choicesOf, a_stack, a_worstPath, a_sureness, a_mostMisses, a_mostHits, a_leastMisses, a_endings, a_runsHolding, a_rounds, a_path, a_pathTop, a_cache, a_runMisses, a_runHits, a_table, a_before, a_behind) (nI n) := by
  have c : (nI n).toNatClampNeg = n := nI_clamp (by omega)
  have i : vp_in (nI n) 18 := vp_in_nI hn (by omega)
  refine And.intro i (nm_r (e' := 4) (by rw [c]; exact hk) (br_f (by decide) (br_t (by decide) ?_)))
  refine xh_fixed hn hl ⟨i, ?_⟩
  rw [c]
  refine nm_e (xn_round (k := k) hn (by rw [us_s]; exact e) hk4 (fun z => ?_) (fun j z => ?_))
  · have w := w0 z
    subst z
    rw [e]
    exact w
  · rw [e]
    exact w1 j z
theorem xl_seq1 {f_setBits : Int32} {f_placeCount : Int32} {f_made : Int32} {f_height : Int32} {f_pathCount : Int32} {f_greatestLength : Int32} {f_worstTime : Int32} {f_bestTime : Int32} {f_worstCount : Int32} {f_programBound : Int32} {f_endingCount : Int32} {f_chosen : Int32} {f_time : Int32} {a_kind : Nat → Int32} {a_first : Nat → Int32} {a_second : Nat → Int32} {a_low : Nat → Int32} {a_high : Nat → Int32} {a_parent : Nat → Int32} {a_pathsOf : Nat → Int32} {a_lengthOf : Nat → Int32} {a_choicesOf : Nat → Int32} {a_stack : Nat → Int32} {a_worstPath : Nat → Int32} {a_sureness : Nat → Int32} {a_mostMisses : Nat → Int32} {a_mostHits : Nat → Int32} {a_leastMisses : Nat → Int32} {a_endings : Nat → Int64} {a_runsHolding : Nat → Int32} {a_rounds : Nat → Int32} {a_path : Nat → Int32} {a_pathTop : Nat → Int32} {a_cache : Nat → Int32} {a_runMisses : Nat → Int32} {a_runHits : Nat → Int32} {a_table : Nat → Int32} {a_before : Nat → Int32} {a_behind : Nat → Int32} {p : Nat} (hn : n < 18) (hp : p < 18) (hpar : a_parent n = nI p) (hk : a_kind p = 2) (hf : a_first p = nI n) (H : Q (a_second p) (f_setBits, f_placeCount, f_made, f_height, f_pathCount, f_greatestLength, f_worstTime, f_bestTime, f_worstCount, f_programBound, f_endingCount, f_chosen, f_time, a_kind, a_first, a_second, a_low, a_high, a_parent, a_pathsOf, a_lengthOf, a_choicesOf, a_stack, a_worstPath, a_sureness, a_mostMisses, a_mostHits, a_leastMisses, a_endings, a_runsHolding, a_rounds, a_path, a_pathTop, a_cache, a_runMisses, a_runHits, a_table, a_before, a_behind)) : wpX_leaveInRun Q (f_setBits, f_placeCount, f_made, f_height, f_pathCount, f_greatestLength, f_worstTime, f_bestTime, f_worstCount, f_programBound, f_endingCount, f_chosen, f_time, a_kind, a_first, a_second, a_low, a_high, a_parent, a_pathsOf, a_lengthOf, a_choicesOf, a_stack, a_worstPath, a_sureness, a_mostMisses, a_mostHits, a_leastMisses, a_endings, a_runsHolding, a_rounds, a_path, a_pathTop, a_cache, a_runMisses, a_runHits, a_table, a_before, a_behind) (nI n) := by
  have c : (nI n).toNatClampNeg = n := nI_clamp (by omega)
  have i : vp_in (nI n) 18 := vp_in_nI hn (by omega)
  have cp : (nI p).toNatClampNeg = p := nI_clamp (by omega)
  have ip : vp_in (nI p) 18 := vp_in_nI hp (by omega)
  exact And.intro i (nm_r (e' := nI p) (by rw [c]; exact hpar) ⟨ip, br_t (by rw [cp]; exact hk) ⟨ip, br_t (by rw [cp]; exact hf.symm) ⟨ip, by rw [cp]; exact H⟩⟩⟩)
theorem xl_34 {f_setBits : Int32} {f_placeCount : Int32} {f_made : Int32} {f_height : Int32} {f_pathCount : Int32} {f_greatestLength : Int32} {f_worstTime : Int32} {f_bestTime : Int32} {f_worstCount : Int32} {f_programBound : Int32} {f_endingCount : Int32} {f_chosen : Int32} {f_time : Int32} {a_kind : Nat → Int32} {a_first : Nat → Int32} {a_second : Nat → Int32} {a_low : Nat → Int32} {a_high : Nat → Int32} {a_parent : Nat → Int32} {a_pathsOf : Nat → Int32} {a_lengthOf : Nat → Int32} {a_choicesOf : Nat → Int32} {a_stack : Nat → Int32} {a_worstPath : Nat → Int32} {a_sureness : Nat → Int32} {a_mostMisses : Nat → Int32} {a_mostHits : Nat → Int32} {a_leastMisses : Nat → Int32} {a_endings : Nat → Int64} {a_runsHolding : Nat → Int32} {a_rounds : Nat → Int32} {a_path : Nat → Int32} {a_pathTop : Nat → Int32} {a_cache : Nat → Int32} {a_runMisses : Nat → Int32} {a_runHits : Nat → Int32} {a_table : Nat → Int32} {a_before : Nat → Int32} {a_behind : Nat → Int32} {p : Nat} (hp : p < 18) (hk : ¬ a_kind p = 4) (H : Q (nI p ^^^ (-1)) (f_setBits, f_placeCount, f_made, f_height, f_pathCount, f_greatestLength, f_worstTime, f_bestTime, f_worstCount, f_programBound, f_endingCount, f_chosen, f_time, a_kind, a_first, a_second, a_low, a_high, a_parent, a_pathsOf, a_lengthOf, a_choicesOf, a_stack, a_worstPath, a_sureness, a_mostMisses, a_mostHits, a_leastMisses, a_endings, a_runsHolding, a_rounds, a_path, a_pathTop, a_cache, a_runMisses, a_runHits, a_table, a_before, a_behind)) : wX_leaveInRun_34 Q (nI p) f_setBits f_placeCount f_made f_height f_pathCount f_greatestLength f_worstTime f_bestTime f_worstCount f_programBound f_endingCount f_chosen f_time a_kind a_first a_second a_low a_high a_parent a_pathsOf a_lengthOf a_choicesOf a_stack a_worstPath a_sureness a_mostMisses a_mostHits a_leastMisses a_endings a_runsHolding a_rounds a_path a_pathTop a_cache a_runMisses a_runHits a_table a_before a_behind := by
  have cp : (nI p).toNatClampNeg = p := nI_clamp (by omega)
  have ip : vp_in (nI p) 18 := vp_in_nI hp (by omega)
  exact And.intro ip (br_f (by rw [cp]; exact hk) H)
theorem xl_up {f_setBits : Int32} {f_placeCount : Int32} {f_made : Int32} {f_height : Int32} {f_pathCount : Int32} {f_greatestLength : Int32} {f_worstTime : Int32} {f_bestTime : Int32} {f_worstCount : Int32} {f_programBound : Int32} {f_endingCount : Int32} {f_chosen : Int32} {f_time : Int32} {a_kind : Nat → Int32} {a_first : Nat → Int32} {a_second : Nat → Int32} {a_low : Nat → Int32} {a_high : Nat → Int32} {a_parent : Nat → Int32} {a_pathsOf : Nat → Int32} {a_lengthOf : Nat → Int32} {a_choicesOf : Nat → Int32} {a_stack : Nat → Int32} {a_worstPath : Nat → Int32} {a_sureness : Nat → Int32} {a_mostMisses : Nat → Int32} {a_mostHits : Nat → Int32} {a_leastMisses : Nat → Int32} {a_endings : Nat → Int64} {a_runsHolding : Nat → Int32} {a_rounds : Nat → Int32} {a_path : Nat → Int32} {a_pathTop : Nat → Int32} {a_cache : Nat → Int32} {a_runMisses : Nat → Int32} {a_runHits : Nat → Int32} {a_table : Nat → Int32} {a_before : Nat → Int32} {a_behind : Nat → Int32} {p : Nat} (hn : n < 18) (hp : p < 18) (hpar : a_parent n = nI p) (hk : ¬ a_kind p = 4) (hf : a_kind p = 2 → ¬ a_first p = nI n) (H : Q (nI p ^^^ (-1)) (f_setBits, f_placeCount, f_made, f_height, f_pathCount, f_greatestLength, f_worstTime, f_bestTime, f_worstCount, f_programBound, f_endingCount, f_chosen, f_time, a_kind, a_first, a_second, a_low, a_high, a_parent, a_pathsOf, a_lengthOf, a_choicesOf, a_stack, a_worstPath, a_sureness, a_mostMisses, a_mostHits, a_leastMisses, a_endings, a_runsHolding, a_rounds, a_path, a_pathTop, a_cache, a_runMisses, a_runHits, a_table, a_before, a_behind)) : wpX_leaveInRun Q (f_setBits, f_placeCount, f_made, f_height, f_pathCount, f_greatestLength, f_worstTime, f_bestTime, f_worstCount, f_programBound, f_endingCount, f_chosen, f_time, a_kind, a_first, a_second, a_low, a_high, a_parent, a_pathsOf, a_lengthOf, a_choicesOf, a_stack, a_worstPath, a_sureness, a_mostMisses, a_mostHits, a_leastMisses, a_endings, a_runsHolding, a_rounds, a_path, a_pathTop, a_cache, a_runMisses, a_runHits, a_table, a_before, a_behind) (nI n) := by
  have c : (nI n).toNatClampNeg = n := nI_clamp (by omega)
  have i : vp_in (nI n) 18 := vp_in_nI hn (by omega)
  have cp : (nI p).toNatClampNeg = p := nI_clamp (by omega)
  have ip : vp_in (nI p) 18 := vp_in_nI hp (by omega)
  exact And.intro i (nm_r (e' := nI p) (by rw [c]; exact hpar) ⟨ip, br_c (fun z => ⟨ip, br_f (by rw [cp] at z ⊢; exact fun y => hf z y.symm) (xl_34 hp hk H)⟩) (fun z => xl_34 hp hk H)⟩)
theorem xl_loop {f_setBits : Int32} {f_placeCount : Int32} {f_made : Int32} {f_height : Int32} {f_pathCount : Int32} {f_greatestLength : Int32} {f_worstTime : Int32} {f_bestTime : Int32} {f_worstCount : Int32} {f_programBound : Int32} {f_endingCount : Int32} {f_chosen : Int32} {f_time : Int32} {a_kind : Nat → Int32} {a_first : Nat → Int32} {a_second : Nat → Int32} {a_low : Nat → Int32} {a_high : Nat → Int32} {a_parent : Nat → Int32} {a_pathsOf : Nat → Int32} {a_lengthOf : Nat → Int32} {a_choicesOf : Nat → Int32} {a_stack : Nat → Int32} {a_worstPath : Nat → Int32} {a_sureness : Nat → Int32} {a_mostMisses : Nat → Int32} {a_mostHits : Nat → Int32} {a_leastMisses : Nat → Int32} {a_endings : Nat → Int64} {a_runsHolding : Nat → Int32} {a_rounds : Nat → Int32} {a_path : Nat → Int32} {a_pathTop : Nat → Int32} {a_cache : Nat → Int32} {a_runMisses : Nat → Int32} {a_runHits : Nat → Int32} {a_table : Nat → Int32} {a_before : Nat → Int32} {a_behind : Nat → Int32} {p k : Nat} (hn : n < 18) (hp : p < 18) (hpar : a_parent n = nI p) (hk : a_kind p = 4) (hr : a_rounds p = nI k) (hk4 : k ≤ 4)
    (H0 : k = 0 → Q (nI p ^^^ (-1)) (f_setBits, f_placeCount, f_made, f_height, f_pathCount, f_greatestLength, f_worstTime, f_bestTime, f_worstCount, f_programBound, f_endingCount, f_chosen, f_time, a_kind, a_first, a_second, a_low, a_high, a_parent, a_pathsOf, a_lengthOf, a_choicesOf, a_stack, a_worstPath, a_sureness, a_mostMisses, a_mostHits, a_leastMisses, a_endings, a_runsHolding, a_rounds, a_path, a_pathTop, a_cache, a_runMisses, a_runHits, a_table, a_before, a_behind)) (H1 : ∀ j, k = j + 1 → Q (a_first p) (f_setBits, f_placeCount, f_made, f_height, f_pathCount, f_greatestLength, f_worstTime, f_bestTime, f_worstCount, f_programBound, f_endingCount, f_chosen, f_time, a_kind, a_first, a_second, a_low, a_high, a_parent, a_pathsOf, a_lengthOf, a_choicesOf, a_stack, a_worstPath, a_sureness, a_mostMisses, a_mostHits, a_leastMisses, a_endings, a_runsHolding, upd a_rounds p (nI j), a_path, a_pathTop, a_cache, a_runMisses, a_runHits, a_table, a_before, a_behind)) : wpX_leaveInRun Q (f_setBits, f_placeCount, f_made, f_height, f_pathCount, f_greatestLength, f_worstTime, f_bestTime, f_worstCount, f_programBound, f_endingCount, f_chosen, f_time, a_kind, a_first, a_second, a_low, a_high, a_parent, a_pathsOf, a_lengthOf, a_choicesOf, a_stack, a_worstPath, a_sureness, a_mostMisses, a_mostHits, a_leastMisses, a_endings, a_runsHolding, a_rounds, a_path, a_pathTop, a_cache, a_runMisses, a_runHits, a_table, a_before, a_behind) (nI n) := by
  have c : (nI n).toNatClampNeg = n := nI_clamp (by omega)
  have i : vp_in (nI n) 18 := vp_in_nI hn (by omega)
  have cp : (nI p).toNatClampNeg = p := nI_clamp (by omega)
  have ip : vp_in (nI p) 18 := vp_in_nI hp (by omega)
  refine And.intro i (nm_r (e' := nI p) (by rw [c]; exact hpar) ⟨ip, br_f (by rw [cp, hk]; decide) (And.intro ip (br_t (by rw [cp]; exact hk) ?_))⟩)
  exact xn_round hp hr hk4 H0 H1
end
theorem xe_if2 {f_setBits : Int32} {f_placeCount : Int32} {f_made : Int32} {f_height : Int32} {f_pathCount : Int32} {f_greatestLength : Int32} {f_worstTime : Int32} {f_bestTime : Int32} {f_worstCount : Int32} {f_programBound : Int32} {f_endingCount : Int32} {f_chosen : Int32} {f_time : Int32} {a_kind : Nat → Int32} {a_first : Nat → Int32} {a_second : Nat → Int32} {a_low : Nat → Int32} {a_high : Nat → Int32} {a_parent : Nat → Int32} {a_pathsOf : Nat → Int32} {a_lengthOf : Nat → Int32} {a_choicesOf : Nat → Int32} {a_stack : Nat → Int32} {a_worstPath : Nat → Int32} {a_sureness : Nat → Int32} {a_mostMisses : Nat → Int32} {a_mostHits : Nat → Int32} {a_leastMisses : Nat → Int32} {a_endings : Nat → Int64} {a_runsHolding : Nat → Int32} {a_rounds : Nat → Int32} {a_path : Nat → Int32} {a_pathTop : Nat → Int32} {a_cache : Nat → Int32} {a_runMisses : Nat → Int32} {a_runHits : Nat → Int32} {a_table : Nat → Int32} {a_before : Nat → Int32} {a_behind : Nat → Int32} {Q : Int32 → SX → Prop} {n t k : Nat} {pa' : Nat → Int32} (hn : n < 18) (hk : a_kind n = 3) (ht : t < 20) (hc : f_chosen = nI t) (hl : ¬ a_low n = a_high n) (hk2 : k < 2 ^ 31)
    (hd : (a_path t = -4 ∧ pa' = upd a_path t (a_low n) ∧ a_low n = nI k) ∨ (¬ a_path t = -4 ∧ pa' = a_path ∧ a_path t = nI k))
    (H : Q (if k = 0 then a_first n else a_second n) (f_setBits, f_placeCount, f_made, f_height, f_pathCount, f_greatestLength, f_worstTime, f_bestTime, f_worstCount, f_programBound, f_endingCount, nI (t + 1), f_time, a_kind, a_first, a_second, a_low, a_high, a_parent, a_pathsOf, a_lengthOf, a_choicesOf, a_stack, a_worstPath, a_sureness, a_mostMisses, a_mostHits, a_leastMisses, a_endings, a_runsHolding, a_rounds, pa', upd a_pathTop t (a_high n), a_cache, a_runMisses, a_runHits, a_table, a_before, a_behind)) : wpX_enterInRun Q (f_setBits, f_placeCount, f_made, f_height, f_pathCount, f_greatestLength, f_worstTime, f_bestTime, f_worstCount, f_programBound, f_endingCount, f_chosen, f_time, a_kind, a_first, a_second, a_low, a_high, a_parent, a_pathsOf, a_lengthOf, a_choicesOf, a_stack, a_worstPath, a_sureness, a_mostMisses, a_mostHits, a_leastMisses, a_endings, a_runsHolding, a_rounds, a_path, a_pathTop, a_cache, a_runMisses, a_runHits, a_table, a_before, a_behind) (nI n) := by
  have z0 : ∀ x : Int32, x = nI k → (if x = 0 then a_first n else a_second n) = (if k = 0 then a_first n else a_second n) := by
    intro x e
    by_cases y : k = 0
    · rw [if_pos y, if_pos (by rw [e, y]; rfl)]
    · rw [if_neg y, if_neg (by rw [e]; exact nI_ne0 (by omega) hk2)]
  rcases hd with ⟨d1, d2, d3⟩ | ⟨d1, d2, d3⟩
  · subst d2
    refine xe_if hn hk ht hc hl (fun _ => ?_) (fun y => absurd d1 y)
    rw [z0 _ d3]
    exact H
  · subst d2
    refine xe_if hn hk ht hc hl (fun y => absurd y d1) (fun _ => ?_)
    rw [z0 _ d3]
    exact H
theorem xe_loop2 {f_setBits : Int32} {f_placeCount : Int32} {f_made : Int32} {f_height : Int32} {f_pathCount : Int32} {f_greatestLength : Int32} {f_worstTime : Int32} {f_bestTime : Int32} {f_worstCount : Int32} {f_programBound : Int32} {f_endingCount : Int32} {f_chosen : Int32} {f_time : Int32} {a_kind : Nat → Int32} {a_first : Nat → Int32} {a_second : Nat → Int32} {a_low : Nat → Int32} {a_high : Nat → Int32} {a_parent : Nat → Int32} {a_pathsOf : Nat → Int32} {a_lengthOf : Nat → Int32} {a_choicesOf : Nat → Int32} {a_stack : Nat → Int32} {a_worstPath : Nat → Int32} {a_sureness : Nat → Int32} {a_mostMisses : Nat → Int32} {a_mostHits : Nat → Int32} {a_leastMisses : Nat → Int32} {a_endings : Nat → Int64} {a_runsHolding : Nat → Int32} {a_rounds : Nat → Int32} {a_path : Nat → Int32} {a_pathTop : Nat → Int32} {a_cache : Nat → Int32} {a_runMisses : Nat → Int32} {a_runHits : Nat → Int32} {a_table : Nat → Int32} {a_before : Nat → Int32} {a_behind : Nat → Int32} {Q : Int32 → SX → Prop} {n t k : Nat} {pa' : Nat → Int32} (hn : n < 18) (hk : a_kind n = 4) (ht : t < 20) (hc : f_chosen = nI t) (hl : ¬ a_low n = a_high n) (hk4 : k ≤ 4)
    (hd : (a_path t = -4 ∧ pa' = upd a_path t (a_low n) ∧ a_low n = nI k) ∨ (¬ a_path t = -4 ∧ pa' = a_path ∧ a_path t = nI k))
    (H0 : k = 0 → Q (nI n ^^^ (-1)) (f_setBits, f_placeCount, f_made, f_height, f_pathCount, f_greatestLength, f_worstTime, f_bestTime, f_worstCount, f_programBound, f_endingCount, nI (t + 1), f_time, a_kind, a_first, a_second, a_low, a_high, a_parent, a_pathsOf, a_lengthOf, a_choicesOf, a_stack, a_worstPath, a_sureness, a_mostMisses, a_mostHits, a_leastMisses, a_endings, a_runsHolding, upd a_rounds n 0, pa', upd a_pathTop t (a_high n), a_cache, a_runMisses, a_runHits, a_table, a_before, a_behind))
    (H1 : ∀ j, k = j + 1 → Q (a_first n) (f_setBits, f_placeCount, f_made, f_height, f_pathCount, f_greatestLength, f_worstTime, f_bestTime, f_worstCount, f_programBound, f_endingCount, nI (t + 1), f_time, a_kind, a_first, a_second, a_low, a_high, a_parent, a_pathsOf, a_lengthOf, a_choicesOf, a_stack, a_worstPath, a_sureness, a_mostMisses, a_mostHits, a_leastMisses, a_endings, a_runsHolding, upd (upd a_rounds n (nI k)) n (nI j), pa', upd a_pathTop t (a_high n), a_cache, a_runMisses, a_runHits, a_table, a_before, a_behind)) : wpX_enterInRun Q (f_setBits, f_placeCount, f_made, f_height, f_pathCount, f_greatestLength, f_worstTime, f_bestTime, f_worstCount, f_programBound, f_endingCount, f_chosen, f_time, a_kind, a_first, a_second, a_low, a_high, a_parent, a_pathsOf, a_lengthOf, a_choicesOf, a_stack, a_worstPath, a_sureness, a_mostMisses, a_mostHits, a_leastMisses, a_endings, a_runsHolding, a_rounds, a_path, a_pathTop, a_cache, a_runMisses, a_runHits, a_table, a_before, a_behind) (nI n) := by
  rcases hd with ⟨d1, d2, d3⟩ | ⟨d1, d2, d3⟩
  · subst d2
    exact xe_loop hn hk ht hc hl hk4 (fun _ => ⟨d3, H0, H1⟩) (fun y => absurd d1 y)
  · subst d2
    exact xe_loop hn hk ht hc hl hk4 (fun y => absurd y d1) (fun _ => ⟨d3, H0, H1⟩)
end
section
/-! Y: the steps of a run -/
def pu_f (todo : Nat → Int32) (o : Nat) (x : Int32) : Nat → Nat → Int32
  | 0 => todo
  | k + 1 => upd (pu_f todo o x k) (o + k) x
theorem pu_td {todo : Nat → Int32} {K : List Nat} {n : Nat} (h : td_L todo K) : ∀ k, td_L (pu_f todo K.length (nI n) k) (List.replicate k n ++ K) := by
  intro k
  induction k with
  | zero => exact h
  | succ k ih =>
    rw [List.replicate_succ, List.cons_append]
    refine td_push ih ?_ rfl
    rw [List.length_append, List.length_replicate, Nat.add_comm]
theorem yp_loop {h_sets : Int32} {h_places : Int32} {h_made : Int32} {h_depth : Int32} {h_size : Int32} {h_open : Int32} {h_time : Int32} {h_chosen : Int32} {h_kept : Int32} {h_worst : Int32} {h_best : Int32} {h_worstRuns : Int32} {h_worstChoices : Int32} {h_ends : Int32} {h_bound : Int32} {h_under : Int32} {h_back : Int32} {b_sorts : Nat → Int32} {b_lows : Nat → Int32} {b_highs : Nat → Int32} {b_firsts : Nat → Int32} {b_seconds : Nat → Int32} {b_stack : Nat → Int32} {b_pathsOf : Nat → Int32} {b_lengthOf : Nat → Int32} {b_choicesOf : Nat → Int32} {b_todo : Nat → Int32} {b_cache : Nat → Int32} {b_path : Nat → Int32} {b_tops : Nat → Int32} {b_missed : Nat → Int32} {b_struck : Nat → Int32} {b_worstPath : Nat → Int32} {b_mostMissed : Nat → Int32} {b_mostStruck : Nat → Int32} {b_leastMissed : Nat → Int32} {b_held : Nat → Int32} {b_contents : Nat → Int64} {b_ages : Nat → Int32} {b_phase : Nat → Int32} {b_node : Nat → Int32} {b_sum : Nat → Int32} {b_saved : Nat → Int32} {b_greatest : Nat → Int32} {b_met : Nat → Int32} {b_unsure : Nat → Int32} {post : SY → Prop} {o k : Nat} {x : Int32} (ho : o + k ≤ 120) (H : post (h_sets, h_places, h_made, h_depth, h_size, nI (o + k), h_time, h_chosen, h_kept, h_worst, h_best, h_worstRuns, h_worstChoices, h_ends, h_bound, h_under, h_back, b_sorts, b_lows, b_highs, b_firsts, b_seconds, b_stack, b_pathsOf, b_lengthOf, b_choicesOf, pu_f b_todo o x k, b_cache, b_path, b_tops, b_missed, b_struck, b_worstPath, b_mostMissed, b_mostStruck, b_leastMissed, b_held, b_contents, b_ages, b_phase, b_node, b_sum, b_saved, b_greatest, b_met, b_unsure)) :
    ∀ d i, i + d = k → wY_push_2 post x (nI k) h_sets h_places h_made h_depth h_size h_time h_chosen h_kept h_worst h_best h_worstRuns h_worstChoices h_ends h_bound h_under h_back (d + 1) (nI i) (nI (o + i)) b_sorts b_lows b_highs b_firsts b_seconds b_stack b_pathsOf b_lengthOf b_choicesOf (pu_f b_todo o x i) b_cache b_path b_tops b_missed b_struck b_worstPath b_mostMissed b_mostStruck b_leastMissed b_held b_contents b_ages b_phase b_node b_sum b_saved b_greatest b_met b_unsure := by
  intro d
  induction d with
  | zero =>
    intro i hi
    have hi : i = k := by omega
    subst hi
    exact br_t (nI_le (Nat.le_refl _) (by omega)) H
  | succ d ih =>
    intro i hi
    have c : (nI (o + i)).toNatClampNeg = o + i := nI_clamp (by omega)
    refine br_f (nI_ge (by omega) (by omega)) ⟨vp_in_nI (by omega) (by omega), um_u c (nm_r (nI_1 (o + i)) (nm_r (nI_1 i) ?_))⟩
    exact ih (i + 1) (by omega)
theorem yp_push {h_sets : Int32} {h_places : Int32} {h_made : Int32} {h_depth : Int32} {h_size : Int32} {h_open : Int32} {h_time : Int32} {h_chosen : Int32} {h_kept : Int32} {h_worst : Int32} {h_best : Int32} {h_worstRuns : Int32} {h_worstChoices : Int32} {h_ends : Int32} {h_bound : Int32} {h_under : Int32} {h_back : Int32} {b_sorts : Nat → Int32} {b_lows : Nat → Int32} {b_highs : Nat → Int32} {b_firsts : Nat → Int32} {b_seconds : Nat → Int32} {b_stack : Nat → Int32} {b_pathsOf : Nat → Int32} {b_lengthOf : Nat → Int32} {b_choicesOf : Nat → Int32} {b_todo : Nat → Int32} {b_cache : Nat → Int32} {b_path : Nat → Int32} {b_tops : Nat → Int32} {b_missed : Nat → Int32} {b_struck : Nat → Int32} {b_worstPath : Nat → Int32} {b_mostMissed : Nat → Int32} {b_mostStruck : Nat → Int32} {b_leastMissed : Nat → Int32} {b_held : Nat → Int32} {b_contents : Nat → Int64} {b_ages : Nat → Int32} {b_phase : Nat → Int32} {b_node : Nat → Int32} {b_sum : Nat → Int32} {b_saved : Nat → Int32} {b_greatest : Nat → Int32} {b_met : Nat → Int32} {b_unsure : Nat → Int32} {post : SY → Prop} {o k : Nat} {x : Int32} (ho : o + k ≤ 120) (H : post (h_sets, h_places, h_made, h_depth, h_size, nI (o + k), h_time, h_chosen, h_kept, h_worst, h_best, h_worstRuns, h_worstChoices, h_ends, h_bound, h_under, h_back, b_sorts, b_lows, b_highs, b_firsts, b_seconds, b_stack, b_pathsOf, b_lengthOf, b_choicesOf, pu_f b_todo o x k, b_cache, b_path, b_tops, b_missed, b_struck, b_worstPath, b_mostMissed, b_mostStruck, b_leastMissed, b_held, b_contents, b_ages, b_phase, b_node, b_sum, b_saved, b_greatest, b_met, b_unsure)) : wpY_push post (h_sets, h_places, h_made, h_depth, h_size, nI o, h_time, h_chosen, h_kept, h_worst, h_best, h_worstRuns, h_worstChoices, h_ends, h_bound, h_under, h_back, b_sorts, b_lows, b_highs, b_firsts, b_seconds, b_stack, b_pathsOf, b_lengthOf, b_choicesOf, b_todo, b_cache, b_path, b_tops, b_missed, b_struck, b_worstPath, b_mostMissed, b_mostStruck, b_leastMissed, b_held, b_contents, b_ages, b_phase, b_node, b_sum, b_saved, b_greatest, b_met, b_unsure) x (nI k) :=
  Exists.intro (k + 1) (yp_loop (h_open := h_open) ho H k 0 (by omega))
/-- Y's row after the shift, places above p done -/
def sh_f (ce : Nat → Int32) (b po p : Nat) : Nat → Int32 := fun x => if b + p < x ∧ x ≤ b + po then ce (x - 1) else ce x
def sh_g (ce : Nat → Int32) (b po : Nat) (m : Int32) : Nat → Int32 := upd (sh_f ce b po 0) b m
theorem sh_0 {ce : Nat → Int32} {b po : Nat} : sh_f ce b po po = ce := by
  funext x
  show (if b + po < x ∧ x ≤ b + po then ce (x - 1) else ce x) = ce x
  rw [if_neg (by omega)]
theorem sh_s {ce : Nat → Int32} {b po p : Nat} (hp : p < po) : upd (sh_f ce b po (p + 1)) (b + (p + 1)) (sh_f ce b po (p + 1) (b + p)) = sh_f ce b po p := by
  funext x
  by_cases e : x = b + (p + 1)
  · subst e
    rw [us_s]
    show (if b + (p + 1) < b + p ∧ b + p ≤ b + po then ce (b + p - 1) else ce (b + p)) = (if b + p < b + (p + 1) ∧ b + (p + 1) ≤ b + po then ce (b + (p + 1) - 1) else ce (b + (p + 1)))
    rw [if_neg (by omega), if_pos (by omega)]
    rfl
  · rw [us_n e]
    show (if b + (p + 1) < x ∧ x ≤ b + po then ce (x - 1) else ce x) = (if b + p < x ∧ x ≤ b + po then ce (x - 1) else ce x)
    by_cases d : b + (p + 1) < x ∧ x ≤ b + po
    · rw [if_pos d, if_pos (by omega)]
    · rw [if_neg d, if_neg (by omega)]
theorem sh_val {ce : Nat → Int32} {bb po : Nat} {m : Int32} : ∀ b p, b < 4 → p < 4 → po < 4 → sh_g ce (4 * bb) po m (4 * b + p) = if b = bb ∧ p = 0 then m else if b = bb ∧ p ≤ po then ce (4 * b + (p - 1)) else ce (4 * b + p) := by
  intro b p hb hp hpo
  unfold sh_g
  by_cases e : b = bb ∧ p = 0
  · rw [if_pos e]
    obtain ⟨e1, e2⟩ := e
    subst e1 e2
    exact us_s
  · rw [if_neg e, us_n (by omega)]
    show (if 4 * bb + 0 < 4 * b + p ∧ 4 * b + p ≤ 4 * bb + po then ce (4 * b + p - 1) else ce (4 * b + p)) = _
    by_cases d : b = bb ∧ p ≤ po
    · rw [if_pos d, if_pos (by omega)]
      have : 4 * b + p - 1 = 4 * b + (p - 1) := by omega
      rw [this]
    · rw [if_neg d, if_neg (by omega)]
theorem ys_loop {h_sets : Int32} {h_places : Int32} {h_made : Int32} {h_depth : Int32} {h_size : Int32} {h_open : Int32} {h_time : Int32} {h_chosen : Int32} {h_kept : Int32} {h_worst : Int32} {h_best : Int32} {h_worstRuns : Int32} {h_worstChoices : Int32} {h_ends : Int32} {h_bound : Int32} {h_under : Int32} {h_back : Int32} {b_sorts : Nat → Int32} {b_lows : Nat → Int32} {b_highs : Nat → Int32} {b_firsts : Nat → Int32} {b_seconds : Nat → Int32} {b_stack : Nat → Int32} {b_pathsOf : Nat → Int32} {b_lengthOf : Nat → Int32} {b_choicesOf : Nat → Int32} {b_todo : Nat → Int32} {b_cache : Nat → Int32} {b_path : Nat → Int32} {b_tops : Nat → Int32} {b_missed : Nat → Int32} {b_struck : Nat → Int32} {b_worstPath : Nat → Int32} {b_mostMissed : Nat → Int32} {b_mostStruck : Nat → Int32} {b_leastMissed : Nat → Int32} {b_held : Nat → Int32} {b_contents : Nat → Int64} {b_ages : Nat → Int32} {b_phase : Nat → Int32} {b_node : Nat → Int32} {b_sum : Nat → Int32} {b_saved : Nat → Int32} {b_greatest : Nat → Int32} {b_met : Nat → Int32} {b_unsure : Nat → Int32} {post : SY → Prop} {b po : Nat} {m : Int32} (hb : b + po < 16) (H : post (h_sets, h_places, h_made, h_depth, h_size, h_open, h_time, h_chosen, h_kept, h_worst, h_best, h_worstRuns, h_worstChoices, h_ends, h_bound, h_under, h_back, b_sorts, b_lows, b_highs, b_firsts, b_seconds, b_stack, b_pathsOf, b_lengthOf, b_choicesOf, b_todo, sh_g b_cache b po m, b_path, b_tops, b_missed, b_struck, b_worstPath, b_mostMissed, b_mostStruck, b_leastMissed, b_held, b_contents, b_ages, b_phase, b_node, b_sum, b_saved, b_greatest, b_met, b_unsure)) :
    ∀ p, p ≤ po → wY_touch_105 post m (nI b) h_sets h_places h_made h_depth h_size h_open h_time h_chosen h_kept h_worst h_best h_worstRuns h_worstChoices h_ends h_bound h_under h_back (p + 1) (nI p) b_sorts b_lows b_highs b_firsts b_seconds b_stack b_pathsOf b_lengthOf b_choicesOf b_todo (sh_f b_cache b po p) b_path b_tops b_missed b_struck b_worstPath b_mostMissed b_mostStruck b_leastMissed b_held b_contents b_ages b_phase b_node b_sum b_saved b_greatest b_met b_unsure := by
  intro p
  induction p with
  | zero =>
    intro _
    have c : (nI b).toNatClampNeg = b := nI_clamp (by omega)
    exact br_t (nI_le (b := 0) (by omega) (by omega)) ⟨vp_in_nI (by omega) (by omega), um_u c H⟩
  | succ p ih =>
    intro hp
    have e1 : nI b + nI (p + 1) = nI (b + (p + 1)) := nI_add _ _
    have e2 : nI b + nI (p + 1) - 1 = nI (b + p) := by rw [e1]; exact nI_pred (b + p)
    have c1 : (nI b + nI (p + 1)).toNatClampNeg = b + (p + 1) := by rw [e1]; exact nI_clamp (by omega)
    have c2 : (nI b + nI (p + 1) - 1).toNatClampNeg = b + p := by rw [e2]; exact nI_clamp (by omega)
    refine br_f (nI_ge (a := 0) (by omega) (by omega)) ⟨by rw [e2]; exact vp_in_nI (by omega) (by omega), by rw [e1]; exact vp_in_nI (by omega) (by omega), ?_⟩
    rw [c1, c2, sh_s (by omega)]
    exact nm_e (nm_r (pk_m1 p) (ih (by omega)))
theorem yt_find {h_sets : Int32} {h_places : Int32} {h_made : Int32} {h_depth : Int32} {h_size : Int32} {h_open : Int32} {h_time : Int32} {h_chosen : Int32} {h_kept : Int32} {h_worst : Int32} {h_best : Int32} {h_worstRuns : Int32} {h_worstChoices : Int32} {h_ends : Int32} {h_bound : Int32} {h_under : Int32} {h_back : Int32} {b_sorts : Nat → Int32} {b_lows : Nat → Int32} {b_highs : Nat → Int32} {b_firsts : Nat → Int32} {b_seconds : Nat → Int32} {b_stack : Nat → Int32} {b_pathsOf : Nat → Int32} {b_lengthOf : Nat → Int32} {b_choicesOf : Nat → Int32} {b_todo : Nat → Int32} {b_cache : Nat → Int32} {b_path : Nat → Int32} {b_tops : Nat → Int32} {b_missed : Nat → Int32} {b_struck : Nat → Int32} {b_worstPath : Nat → Int32} {b_mostMissed : Nat → Int32} {b_mostStruck : Nat → Int32} {b_leastMissed : Nat → Int32} {b_held : Nat → Int32} {b_contents : Nat → Int64} {b_ages : Nat → Int32} {b_phase : Nat → Int32} {b_node : Nat → Int32} {b_sum : Nat → Int32} {b_saved : Nat → Int32} {b_greatest : Nat → Int32} {b_met : Nat → Int32} {b_unsure : Nat → Int32} {post : SY → Prop} {x1 : Int32} {b w m a : Nat} (hw : w ≤ 4) (hb : b + 4 ≤ 16) (hpl : h_places = nI w) (ha : a ≤ w) (hc : ∀ p, p < w → (b_cache (b + p) = nI m ↔ p = a))
    (H : wY_touch_40 post x1 (nI m) (nI b) (nI a) h_sets h_places h_made h_depth h_size h_open h_time h_chosen h_kept h_worst h_best h_worstRuns h_worstChoices h_ends h_bound h_under h_back b_sorts b_lows b_highs b_firsts b_seconds b_stack b_pathsOf b_lengthOf b_choicesOf b_todo b_cache b_path b_tops b_missed b_struck b_worstPath b_mostMissed b_mostStruck b_leastMissed b_held b_contents b_ages b_phase b_node b_sum b_saved b_greatest b_met b_unsure) : ∀ d i, i + d = w → i ≤ a → wY_touch_12 post x1 (nI m) (nI b) h_sets h_places h_made h_depth h_size h_open h_time h_chosen h_kept h_worst h_best h_worstRuns h_worstChoices h_ends h_bound h_under h_back b_sorts b_lows b_highs b_firsts b_seconds b_stack b_pathsOf b_lengthOf b_choicesOf b_todo b_cache b_path b_tops b_missed b_struck b_worstPath b_mostMissed b_mostStruck b_leastMissed b_held b_contents b_ages b_phase b_node b_sum b_saved b_greatest b_met b_unsure (d + 1) (nI i) := by
  subst hpl
  intro d
  induction d with
  | zero =>
    intro i hi hia
    have hi : i = w := by omega
    subst hi
    have : a = i := by omega
    subst this
    exact br_t (nI_le (Nat.le_refl _) (by omega)) H
  | succ d ih =>
    intro i hi hia
    have e1 : nI b + nI i = nI (b + i) := nI_add _ _
    have c1 : (nI b + nI i).toNatClampNeg = b + i := by rw [e1]; exact nI_clamp (by omega)
    refine br_f (nI_ge (by omega) (by omega)) ⟨by rw [e1]; exact vp_in_nI (by omega) (by omega), ?_⟩
    rw [c1]
    refine br_c (fun z => ?_) (fun z => nm_r (nI_1 i) (ih (i + 1) (by omega) ?_))
    · have := (hc i (by omega)).mp z
      subst this
      exact H
    · have : i ≠ a := fun y => z ((hc i (by omega)).mpr y)
      omega
theorem yt_touch {h_sets : Int32} {h_places : Int32} {h_made : Int32} {h_depth : Int32} {h_size : Int32} {h_open : Int32} {h_time : Int32} {h_chosen : Int32} {h_kept : Int32} {h_worst : Int32} {h_best : Int32} {h_worstRuns : Int32} {h_worstChoices : Int32} {h_ends : Int32} {h_bound : Int32} {h_under : Int32} {h_back : Int32} {b_sorts : Nat → Int32} {b_lows : Nat → Int32} {b_highs : Nat → Int32} {b_firsts : Nat → Int32} {b_seconds : Nat → Int32} {b_stack : Nat → Int32} {b_pathsOf : Nat → Int32} {b_lengthOf : Nat → Int32} {b_choicesOf : Nat → Int32} {b_todo : Nat → Int32} {b_cache : Nat → Int32} {b_path : Nat → Int32} {b_tops : Nat → Int32} {b_missed : Nat → Int32} {b_struck : Nat → Int32} {b_worstPath : Nat → Int32} {b_mostMissed : Nat → Int32} {b_mostStruck : Nat → Int32} {b_leastMissed : Nat → Int32} {b_held : Nat → Int32} {b_contents : Nat → Int64} {b_ages : Nat → Int32} {b_phase : Nat → Int32} {b_node : Nat → Int32} {b_sum : Nat → Int32} {b_saved : Nat → Int32} {b_greatest : Nat → Int32} {b_met : Nat → Int32} {b_unsure : Nat → Int32} {post : SY → Prop} {s w m a n : Nat} (hn : n < 18) (hm : m < 12) (hs0 : 0 < s) (hs : s ≤ 4) (hw0 : 0 < w) (hw : w ≤ 4) (hsets : h_sets = nI s) (hpl : h_places = nI w) (ha : a ≤ w)
    (hc : ∀ p, p < w → (b_cache (4 * (m % s) + p) = nI m ↔ p = a))
    (Hh : a < w → post (h_sets, h_places, h_made, h_depth, h_size, h_open, h_time + 1, h_chosen, h_kept, h_worst, h_best, h_worstRuns, h_worstChoices, h_ends, h_bound, h_under, h_back, b_sorts, b_lows, b_highs, b_firsts, b_seconds, b_stack, b_pathsOf, b_lengthOf, b_choicesOf, b_todo, sh_g b_cache (4 * (m % s)) a (nI m), b_path, b_tops, b_missed, upd b_struck n (b_struck n + 1), b_worstPath, b_mostMissed, b_mostStruck, b_leastMissed, b_held, b_contents, b_ages, b_phase, b_node, b_sum, b_saved, b_greatest, b_met, b_unsure))
    (Hm : ¬ a < w → post (h_sets, h_places, h_made, h_depth, h_size, h_open, h_time + 10, h_chosen, h_kept, h_worst, h_best, h_worstRuns, h_worstChoices, h_ends, h_bound, h_under, h_back, b_sorts, b_lows, b_highs, b_firsts, b_seconds, b_stack, b_pathsOf, b_lengthOf, b_choicesOf, b_todo, sh_g b_cache (4 * (m % s)) (w - 1) (nI m), b_path, b_tops, upd b_missed n (b_missed n + 1), b_struck, b_worstPath, b_mostMissed, b_mostStruck, b_leastMissed, b_held, b_contents, b_ages, b_phase, b_node, b_sum, b_saved, b_greatest, b_met, b_unsure)) : wpY_touch post (h_sets, h_places, h_made, h_depth, h_size, h_open, h_time, h_chosen, h_kept, h_worst, h_best, h_worstRuns, h_worstChoices, h_ends, h_bound, h_under, h_back, b_sorts, b_lows, b_highs, b_firsts, b_seconds, b_stack, b_pathsOf, b_lengthOf, b_choicesOf, b_todo, b_cache, b_path, b_tops, b_missed, b_struck, b_worstPath, b_mostMissed, b_mostStruck, b_leastMissed, b_held, b_contents, b_ages, b_phase, b_node, b_sum, b_saved, b_greatest, b_met, b_unsure) (nI n) (nI m) := by
  have hb := Nat.mod_lt m hs0
  have i : vp_in (nI n) 18 := vp_in_nI hn (by omega)
  have c : (nI n).toNatClampNeg = n := nI_clamp (by omega)
  have e : 4 * (nI m - nI m / h_sets * h_sets) = nI (4 * (m % s)) := by
    rw [hsets, pk_rem (by omega) hs0 (by omega)]
    exact pk_mul 4 _
  refine And.intro (by rw [hsets]; exact nI_ne0 hs0 (by omega)) (nm_r e ⟨w + 1, ?_⟩)
  refine yt_find hw (by omega) hpl ha hc ?_ w 0 (by omega) (by omega)
  subst hpl
  by_cases z : a < w
  · refine br_f (nI_ge z (by omega)) (nm_e ⟨i, i, ?_⟩)
    rw [c]
    refine nm_e ⟨a + 1, ?_⟩
    have L := ys_loop (b_cache := b_cache) (b := 4 * (m % s)) (po := a) (by omega) (Hh z) a (Nat.le_refl _)
    rw [sh_0] at L
    exact L
  · refine br_t (nI_le (by omega) (by omega)) (nm_e ⟨i, i, ?_⟩)
    rw [c]
    have e1 : nI w - 1 = nI (w - 1) := by
      obtain ⟨v, rfl⟩ : ∃ v, w = v + 1 := ⟨w - 1, by omega⟩
      exact nI_pred v
    refine nm_e (nm_r e1 ⟨w - 1 + 1, ?_⟩)
    have L := ys_loop (b_cache := b_cache) (b := 4 * (m % s)) (po := w - 1) (by omega) (Hm z) (w - 1) (Nat.le_refl _)
    rw [sh_0] at L
    exact L
theorem yh_choose {h_sets : Int32} {h_places : Int32} {h_made : Int32} {h_depth : Int32} {h_size : Int32} {h_open : Int32} {h_time : Int32} {h_chosen : Int32} {h_kept : Int32} {h_worst : Int32} {h_best : Int32} {h_worstRuns : Int32} {h_worstChoices : Int32} {h_ends : Int32} {h_bound : Int32} {h_under : Int32} {h_back : Int32} {b_sorts : Nat → Int32} {b_lows : Nat → Int32} {b_highs : Nat → Int32} {b_firsts : Nat → Int32} {b_seconds : Nat → Int32} {b_stack : Nat → Int32} {b_pathsOf : Nat → Int32} {b_lengthOf : Nat → Int32} {b_choicesOf : Nat → Int32} {b_todo : Nat → Int32} {b_cache : Nat → Int32} {b_path : Nat → Int32} {b_tops : Nat → Int32} {b_missed : Nat → Int32} {b_struck : Nat → Int32} {b_worstPath : Nat → Int32} {b_mostMissed : Nat → Int32} {b_mostStruck : Nat → Int32} {b_leastMissed : Nat → Int32} {b_held : Nat → Int32} {b_contents : Nat → Int64} {b_ages : Nat → Int32} {b_phase : Nat → Int32} {b_node : Nat → Int32} {b_sum : Nat → Int32} {b_saved : Nat → Int32} {b_greatest : Nat → Int32} {b_met : Nat → Int32} {b_unsure : Nat → Int32} {Q : Int32 → SY → Prop} {t kept : Nat} {lo hi : Int32} (ht : t < 20) (hk : kept ≤ 20) (hc : h_chosen = nI t) (hkp : h_kept = nI kept)
    (H1 : ¬ t < kept → Q lo (h_sets, h_places, h_made, h_depth, h_size, h_open, h_time, nI (t + 1), h_kept, h_worst, h_best, h_worstRuns, h_worstChoices, h_ends, h_bound, h_under, h_back, b_sorts, b_lows, b_highs, b_firsts, b_seconds, b_stack, b_pathsOf, b_lengthOf, b_choicesOf, b_todo, b_cache, upd b_path t lo, upd b_tops t hi, b_missed, b_struck, b_worstPath, b_mostMissed, b_mostStruck, b_leastMissed, b_held, b_contents, b_ages, b_phase, b_node, b_sum, b_saved, b_greatest, b_met, b_unsure))
    (H2 : t < kept → Q (b_path t) (h_sets, h_places, h_made, h_depth, h_size, h_open, h_time, nI (t + 1), h_kept, h_worst, h_best, h_worstRuns, h_worstChoices, h_ends, h_bound, h_under, h_back, b_sorts, b_lows, b_highs, b_firsts, b_seconds, b_stack, b_pathsOf, b_lengthOf, b_choicesOf, b_todo, b_cache, b_path, upd b_tops t hi, b_missed, b_struck, b_worstPath, b_mostMissed, b_mostStruck, b_leastMissed, b_held, b_contents, b_ages, b_phase, b_node, b_sum, b_saved, b_greatest, b_met, b_unsure)) : wpY_choose Q (h_sets, h_places, h_made, h_depth, h_size, h_open, h_time, h_chosen, h_kept, h_worst, h_best, h_worstRuns, h_worstChoices, h_ends, h_bound, h_under, h_back, b_sorts, b_lows, b_highs, b_firsts, b_seconds, b_stack, b_pathsOf, b_lengthOf, b_choicesOf, b_todo, b_cache, b_path, b_tops, b_missed, b_struck, b_worstPath, b_mostMissed, b_mostStruck, b_leastMissed, b_held, b_contents, b_ages, b_phase, b_node, b_sum, b_saved, b_greatest, b_met, b_unsure) lo hi := by
  subst hc hkp
  have ct : (nI t).toNatClampNeg = t := nI_clamp (by omega)
  have it : vp_in (nI t) 24 := vp_in_nI (by omega) (by omega)
  have e : nI (t + 1) - 1 = nI t := nI_pred t
  by_cases z : t < kept
  · refine br_t (nI_lt z (by omega)) (And.intro it (um_u ct (nm_r (nI_1 t) ?_)))
    rw [e, ct]
    exact ⟨it, H2 z⟩
  · refine br_f (nI_nlt (by omega) (by omega)) ⟨it, um_u ct (And.intro it (um_u ct (nm_r (nI_1 t) ?_)))⟩
    rw [e, ct, us_s]
    exact ⟨it, H1 z⟩
section
variable {post : SY → Prop} {n : Nat}
theorem yb_acc {h_sets : Int32} {h_places : Int32} {h_made : Int32} {h_depth : Int32} {h_size : Int32} {h_open : Int32} {h_time : Int32} {h_chosen : Int32} {h_kept : Int32} {h_worst : Int32} {h_best : Int32} {h_worstRuns : Int32} {h_worstChoices : Int32} {h_ends : Int32} {h_bound : Int32} {h_under : Int32} {h_back : Int32} {b_sorts : Nat → Int32} {b_lows : Nat → Int32} {b_highs : Nat → Int32} {b_firsts : Nat → Int32} {b_seconds : Nat → Int32} {b_stack : Nat → Int32} {b_pathsOf : Nat → Int32} {b_lengthOf : Nat → Int32} {b_choicesOf : Nat → Int32} {b_todo : Nat → Int32} {b_cache : Nat → Int32} {b_path : Nat → Int32} {b_tops : Nat → Int32} {b_missed : Nat → Int32} {b_struck : Nat → Int32} {b_worstPath : Nat → Int32} {b_mostMissed : Nat → Int32} {b_mostStruck : Nat → Int32} {b_leastMissed : Nat → Int32} {b_held : Nat → Int32} {b_contents : Nat → Int64} {b_ages : Nat → Int32} {b_phase : Nat → Int32} {b_node : Nat → Int32} {b_sum : Nat → Int32} {b_saved : Nat → Int32} {b_greatest : Nat → Int32} {b_met : Nat → Int32} {b_unsure : Nat → Int32} (hn : n < 18) (hk : b_sorts n = 0) (H : wpY_touch post (h_sets, h_places, h_made, h_depth, h_size, h_open, h_time, h_chosen, h_kept, h_worst, h_best, h_worstRuns, h_worstChoices, h_ends, h_bound, h_under, h_back, b_sorts, b_lows, b_highs, b_firsts, b_seconds, b_stack, b_pathsOf, b_lengthOf, b_choicesOf, b_todo, b_cache, b_path, b_tops, b_missed, b_struck, b_worstPath, b_mostMissed, b_mostStruck, b_leastMissed, b_held, b_contents, b_ages, b_phase, b_node, b_sum, b_saved, b_greatest, b_met, b_unsure) (nI n) (b_lows n)) : wpY_begin post (h_sets, h_places, h_made, h_depth, h_size, h_open, h_time, h_chosen, h_kept, h_worst, h_best, h_worstRuns, h_worstChoices, h_ends, h_bound, h_under, h_back, b_sorts, b_lows, b_highs, b_firsts, b_seconds, b_stack, b_pathsOf, b_lengthOf, b_choicesOf, b_todo, b_cache, b_path, b_tops, b_missed, b_struck, b_worstPath, b_mostMissed, b_mostStruck, b_leastMissed, b_held, b_contents, b_ages, b_phase, b_node, b_sum, b_saved, b_greatest, b_met, b_unsure) (nI n) := by
  have c : (nI n).toNatClampNeg = n := nI_clamp (by omega)
  have i : vp_in (nI n) 36 := vp_in_nI (by omega) (by omega)
  refine And.intro i (br_t (by rw [c]; exact hk) ⟨i, ?_⟩)
  rw [c]
  exact H
theorem yb_work {h_sets : Int32} {h_places : Int32} {h_made : Int32} {h_depth : Int32} {h_size : Int32} {h_open : Int32} {h_time : Int32} {h_chosen : Int32} {h_kept : Int32} {h_worst : Int32} {h_best : Int32} {h_worstRuns : Int32} {h_worstChoices : Int32} {h_ends : Int32} {h_bound : Int32} {h_under : Int32} {h_back : Int32} {b_sorts : Nat → Int32} {b_lows : Nat → Int32} {b_highs : Nat → Int32} {b_firsts : Nat → Int32} {b_seconds : Nat → Int32} {b_stack : Nat → Int32} {b_pathsOf : Nat → Int32} {b_lengthOf : Nat → Int32} {b_choicesOf : Nat → Int32} {b_todo : Nat → Int32} {b_cache : Nat → Int32} {b_path : Nat → Int32} {b_tops : Nat → Int32} {b_missed : Nat → Int32} {b_struck : Nat → Int32} {b_worstPath : Nat → Int32} {b_mostMissed : Nat → Int32} {b_mostStruck : Nat → Int32} {b_leastMissed : Nat → Int32} {b_held : Nat → Int32} {b_contents : Nat → Int64} {b_ages : Nat → Int32} {b_phase : Nat → Int32} {b_node : Nat → Int32} {b_sum : Nat → Int32} {b_saved : Nat → Int32} {b_greatest : Nat → Int32} {b_met : Nat → Int32} {b_unsure : Nat → Int32} (hn : n < 18) (hk : b_sorts n = 1) (H : post (h_sets, h_places, h_made, h_depth, h_size, h_open, h_time + b_lows n, h_chosen, h_kept, h_worst, h_best, h_worstRuns, h_worstChoices, h_ends, h_bound, h_under, h_back, b_sorts, b_lows, b_highs, b_firsts, b_seconds, b_stack, b_pathsOf, b_lengthOf, b_choicesOf, b_todo, b_cache, b_path, b_tops, b_missed, b_struck, b_worstPath, b_mostMissed, b_mostStruck, b_leastMissed, b_held, b_contents, b_ages, b_phase, b_node, b_sum, b_saved, b_greatest, b_met, b_unsure)) : wpY_begin post (h_sets, h_places, h_made, h_depth, h_size, h_open, h_time, h_chosen, h_kept, h_worst, h_best, h_worstRuns, h_worstChoices, h_ends, h_bound, h_under, h_back, b_sorts, b_lows, b_highs, b_firsts, b_seconds, b_stack, b_pathsOf, b_lengthOf, b_choicesOf, b_todo, b_cache, b_path, b_tops, b_missed, b_struck, b_worstPath, b_mostMissed, b_mostStruck, b_leastMissed, b_held, b_contents, b_ages, b_phase, b_node, b_sum, b_saved, b_greatest, b_met, b_unsure) (nI n) := by
  have c : (nI n).toNatClampNeg = n := nI_clamp (by omega)
  have i : vp_in (nI n) 36 := vp_in_nI (by omega) (by omega)
  exact And.intro i (br_f (by rw [c, hk]; decide) ⟨i, br_t (by rw [c]; exact hk) ⟨i, nm_r (e' := h_time + b_lows n) (by rw [c]) H⟩⟩)
theorem yb_seq {h_sets : Int32} {h_places : Int32} {h_made : Int32} {h_depth : Int32} {h_size : Int32} {h_open : Int32} {h_time : Int32} {h_chosen : Int32} {h_kept : Int32} {h_worst : Int32} {h_best : Int32} {h_worstRuns : Int32} {h_worstChoices : Int32} {h_ends : Int32} {h_bound : Int32} {h_under : Int32} {h_back : Int32} {b_sorts : Nat → Int32} {b_lows : Nat → Int32} {b_highs : Nat → Int32} {b_firsts : Nat → Int32} {b_seconds : Nat → Int32} {b_stack : Nat → Int32} {b_pathsOf : Nat → Int32} {b_lengthOf : Nat → Int32} {b_choicesOf : Nat → Int32} {b_todo : Nat → Int32} {b_cache : Nat → Int32} {b_path : Nat → Int32} {b_tops : Nat → Int32} {b_missed : Nat → Int32} {b_struck : Nat → Int32} {b_worstPath : Nat → Int32} {b_mostMissed : Nat → Int32} {b_mostStruck : Nat → Int32} {b_leastMissed : Nat → Int32} {b_held : Nat → Int32} {b_contents : Nat → Int64} {b_ages : Nat → Int32} {b_phase : Nat → Int32} {b_node : Nat → Int32} {b_sum : Nat → Int32} {b_saved : Nat → Int32} {b_greatest : Nat → Int32} {b_met : Nat → Int32} {b_unsure : Nat → Int32} {o : Nat} (hn : n < 18) (hk : b_sorts n = 2) (ho : o + 2 ≤ 120) (H : post (h_sets, h_places, h_made, h_depth, h_size, nI (o + 1 + 1), h_time, h_chosen, h_kept, h_worst, h_best, h_worstRuns, h_worstChoices, h_ends, h_bound, h_under, h_back, b_sorts, b_lows, b_highs, b_firsts, b_seconds, b_stack, b_pathsOf, b_lengthOf, b_choicesOf, pu_f (pu_f b_todo o (b_seconds n) 1) (o + 1) (b_firsts n) 1, b_cache, b_path, b_tops, b_missed, b_struck, b_worstPath, b_mostMissed, b_mostStruck, b_leastMissed, b_held, b_contents, b_ages, b_phase, b_node, b_sum, b_saved, b_greatest, b_met, b_unsure)) : wpY_begin post (h_sets, h_places, h_made, h_depth, h_size, nI o, h_time, h_chosen, h_kept, h_worst, h_best, h_worstRuns, h_worstChoices, h_ends, h_bound, h_under, h_back, b_sorts, b_lows, b_highs, b_firsts, b_seconds, b_stack, b_pathsOf, b_lengthOf, b_choicesOf, b_todo, b_cache, b_path, b_tops, b_missed, b_struck, b_worstPath, b_mostMissed, b_mostStruck, b_leastMissed, b_held, b_contents, b_ages, b_phase, b_node, b_sum, b_saved, b_greatest, b_met, b_unsure) (nI n) := by
  have c : (nI n).toNatClampNeg = n := nI_clamp (by omega)
  have i : vp_in (nI n) 36 := vp_in_nI (by omega) (by omega)
  refine And.intro i (br_f (by rw [c, hk]; decide) ⟨i, br_f (by rw [c, hk]; decide) ⟨i, br_t (by rw [c]; exact hk) ⟨i, ?_⟩⟩⟩)
  rw [c]
  refine yp_push (o := o) (k := 1) (h_open := h_open) (by omega) ?_
  exact And.intro i (yp_push (o := o + 1) (k := 1) (h_open := h_open) (by omega) H)
theorem yb_if {h_sets : Int32} {h_places : Int32} {h_made : Int32} {h_depth : Int32} {h_size : Int32} {h_open : Int32} {h_time : Int32} {h_chosen : Int32} {h_kept : Int32} {h_worst : Int32} {h_best : Int32} {h_worstRuns : Int32} {h_worstChoices : Int32} {h_ends : Int32} {h_bound : Int32} {h_under : Int32} {h_back : Int32} {b_sorts : Nat → Int32} {b_lows : Nat → Int32} {b_highs : Nat → Int32} {b_firsts : Nat → Int32} {b_seconds : Nat → Int32} {b_stack : Nat → Int32} {b_pathsOf : Nat → Int32} {b_lengthOf : Nat → Int32} {b_choicesOf : Nat → Int32} {b_todo : Nat → Int32} {b_cache : Nat → Int32} {b_path : Nat → Int32} {b_tops : Nat → Int32} {b_missed : Nat → Int32} {b_struck : Nat → Int32} {b_worstPath : Nat → Int32} {b_mostMissed : Nat → Int32} {b_mostStruck : Nat → Int32} {b_leastMissed : Nat → Int32} {b_held : Nat → Int32} {b_contents : Nat → Int64} {b_ages : Nat → Int32} {b_phase : Nat → Int32} {b_node : Nat → Int32} {b_sum : Nat → Int32} {b_saved : Nat → Int32} {b_greatest : Nat → Int32} {b_met : Nat → Int32} {b_unsure : Nat → Int32} {o t kept : Nat} (hn : n < 18) (hk : b_sorts n = 3) (ho : o + 1 ≤ 120) (ht : t < 20) (hkp : kept ≤ 20) (hc : h_chosen = nI t) (hkk : h_kept = nI kept)
    (H1 : ¬ t < kept → post (h_sets, h_places, h_made, h_depth, h_size, nI (o + 1), h_time, nI (t + 1), h_kept, h_worst, h_best, h_worstRuns, h_worstChoices, h_ends, h_bound, h_under, h_back, b_sorts, b_lows, b_highs, b_firsts, b_seconds, b_stack, b_pathsOf, b_lengthOf, b_choicesOf, pu_f b_todo o (b_firsts n) 1, b_cache, upd b_path t 0, upd b_tops t 1, b_missed, b_struck, b_worstPath, b_mostMissed, b_mostStruck, b_leastMissed, b_held, b_contents, b_ages, b_phase, b_node, b_sum, b_saved, b_greatest, b_met, b_unsure))
    (H2 : t < kept → post (h_sets, h_places, h_made, h_depth, h_size, nI (o + 1), h_time, nI (t + 1), h_kept, h_worst, h_best, h_worstRuns, h_worstChoices, h_ends, h_bound, h_under, h_back, b_sorts, b_lows, b_highs, b_firsts, b_seconds, b_stack, b_pathsOf, b_lengthOf, b_choicesOf, pu_f b_todo o (if b_path t = 0 then b_firsts n else b_seconds n) 1, b_cache, b_path, upd b_tops t 1, b_missed, b_struck, b_worstPath, b_mostMissed, b_mostStruck, b_leastMissed, b_held, b_contents, b_ages, b_phase, b_node, b_sum, b_saved, b_greatest, b_met, b_unsure)) : wpY_begin post (h_sets, h_places, h_made, h_depth, h_size, nI o, h_time, h_chosen, h_kept, h_worst, h_best, h_worstRuns, h_worstChoices, h_ends, h_bound, h_under, h_back, b_sorts, b_lows, b_highs, b_firsts, b_seconds, b_stack, b_pathsOf, b_lengthOf, b_choicesOf, b_todo, b_cache, b_path, b_tops, b_missed, b_struck, b_worstPath, b_mostMissed, b_mostStruck, b_leastMissed, b_held, b_contents, b_ages, b_phase, b_node, b_sum, b_saved, b_greatest, b_met, b_unsure) (nI n) := by
  have c : (nI n).toNatClampNeg = n := nI_clamp (by omega)
  have i : vp_in (nI n) 36 := vp_in_nI (by omega) (by omega)
  refine And.intro i (br_f (by rw [c, hk]; decide) ⟨i, br_f (by rw [c, hk]; decide) ⟨i, br_f (by rw [c, hk]; decide) ⟨i, br_t (by rw [c]; exact hk) ?_⟩⟩⟩)
  refine yh_choose ht hkp hc hkk (fun z => br_t rfl ⟨i, ?_⟩) (fun z => br_c (fun y => ⟨i, ?_⟩) (fun y => ⟨i, ?_⟩))
  · rw [c]
    exact yp_push (o := o) (k := 1) (h_open := h_open) ho (H1 z)
  · have w := H2 z
    rw [if_pos y] at w
    rw [c]
    exact yp_push (o := o) (k := 1) (h_open := h_open) ho w
  · have w := H2 z
    rw [if_neg y] at w
    rw [c]
    exact yp_push (o := o) (k := 1) (h_open := h_open) ho w
theorem yb_loop {h_sets : Int32} {h_places : Int32} {h_made : Int32} {h_depth : Int32} {h_size : Int32} {h_open : Int32} {h_time : Int32} {h_chosen : Int32} {h_kept : Int32} {h_worst : Int32} {h_best : Int32} {h_worstRuns : Int32} {h_worstChoices : Int32} {h_ends : Int32} {h_bound : Int32} {h_under : Int32} {h_back : Int32} {b_sorts : Nat → Int32} {b_lows : Nat → Int32} {b_highs : Nat → Int32} {b_firsts : Nat → Int32} {b_seconds : Nat → Int32} {b_stack : Nat → Int32} {b_pathsOf : Nat → Int32} {b_lengthOf : Nat → Int32} {b_choicesOf : Nat → Int32} {b_todo : Nat → Int32} {b_cache : Nat → Int32} {b_path : Nat → Int32} {b_tops : Nat → Int32} {b_missed : Nat → Int32} {b_struck : Nat → Int32} {b_worstPath : Nat → Int32} {b_mostMissed : Nat → Int32} {b_mostStruck : Nat → Int32} {b_leastMissed : Nat → Int32} {b_held : Nat → Int32} {b_contents : Nat → Int64} {b_ages : Nat → Int32} {b_phase : Nat → Int32} {b_node : Nat → Int32} {b_sum : Nat → Int32} {b_saved : Nat → Int32} {b_greatest : Nat → Int32} {b_met : Nat → Int32} {b_unsure : Nat → Int32} {o t kept k : Nat} (hn : n < 18) (hk : b_sorts n = 4) (ho : o + k ≤ 120) (ht : t < 20) (hkp : kept ≤ 20) (hc : h_chosen = nI t) (hkk : h_kept = nI kept) (hl : ¬ b_highs n ≤ b_lows n)
    (H1 : ¬ t < kept → b_lows n = nI k ∧ post (h_sets, h_places, h_made, h_depth, h_size, nI (o + k), h_time, nI (t + 1), h_kept, h_worst, h_best, h_worstRuns, h_worstChoices, h_ends, h_bound, h_under, h_back, b_sorts, b_lows, b_highs, b_firsts, b_seconds, b_stack, b_pathsOf, b_lengthOf, b_choicesOf, pu_f b_todo o (b_firsts n) k, b_cache, upd b_path t (b_lows n), upd b_tops t (b_highs n), b_missed, b_struck, b_worstPath, b_mostMissed, b_mostStruck, b_leastMissed, b_held, b_contents, b_ages, b_phase, b_node, b_sum, b_saved, b_greatest, b_met, b_unsure))
    (H2 : t < kept → b_path t = nI k ∧ post (h_sets, h_places, h_made, h_depth, h_size, nI (o + k), h_time, nI (t + 1), h_kept, h_worst, h_best, h_worstRuns, h_worstChoices, h_ends, h_bound, h_under, h_back, b_sorts, b_lows, b_highs, b_firsts, b_seconds, b_stack, b_pathsOf, b_lengthOf, b_choicesOf, pu_f b_todo o (b_firsts n) k, b_cache, b_path, upd b_tops t (b_highs n), b_missed, b_struck, b_worstPath, b_mostMissed, b_mostStruck, b_leastMissed, b_held, b_contents, b_ages, b_phase, b_node, b_sum, b_saved, b_greatest, b_met, b_unsure)) : wpY_begin post (h_sets, h_places, h_made, h_depth, h_size, nI o, h_time, h_chosen, h_kept, h_worst, h_best, h_worstRuns, h_worstChoices, h_ends, h_bound, h_under, h_back, b_sorts, b_lows, b_highs, b_firsts, b_seconds, b_stack, b_pathsOf, b_lengthOf, b_choicesOf, b_todo, b_cache, b_path, b_tops, b_missed, b_struck, b_worstPath, b_mostMissed, b_mostStruck, b_leastMissed, b_held, b_contents, b_ages, b_phase, b_node, b_sum, b_saved, b_greatest, b_met, b_unsure) (nI n) := by
  have c : (nI n).toNatClampNeg = n := nI_clamp (by omega)
  have i : vp_in (nI n) 36 := vp_in_nI (by omega) (by omega)
  refine And.intro i (br_f (by rw [c, hk]; decide) ⟨i, br_f (by rw [c, hk]; decide) ⟨i, br_f (by rw [c, hk]; decide) ⟨i, br_f (by rw [c, hk]; decide) ⟨i, i, br_f (by rw [c]; exact hl) ⟨i, i, ?_⟩⟩⟩⟩⟩)
  rw [c]
  refine yh_choose ht hkp hc hkk (fun z => And.intro i ?_) (fun z => And.intro i ?_)
  · obtain ⟨e, w⟩ := H1 z
    rw [c]
    have := yp_push (o := o) (k := k) (x := b_firsts n) (h_open := h_open) ho w
    rw [e] at this ⊢
    exact this
  · obtain ⟨e, w⟩ := H2 z
    rw [c, e]
    exact yp_push (o := o) (k := k) (h_open := h_open) ho w
theorem yb_fix {h_sets : Int32} {h_places : Int32} {h_made : Int32} {h_depth : Int32} {h_size : Int32} {h_open : Int32} {h_time : Int32} {h_chosen : Int32} {h_kept : Int32} {h_worst : Int32} {h_best : Int32} {h_worstRuns : Int32} {h_worstChoices : Int32} {h_ends : Int32} {h_bound : Int32} {h_under : Int32} {h_back : Int32} {b_sorts : Nat → Int32} {b_lows : Nat → Int32} {b_highs : Nat → Int32} {b_firsts : Nat → Int32} {b_seconds : Nat → Int32} {b_stack : Nat → Int32} {b_pathsOf : Nat → Int32} {b_lengthOf : Nat → Int32} {b_choicesOf : Nat → Int32} {b_todo : Nat → Int32} {b_cache : Nat → Int32} {b_path : Nat → Int32} {b_tops : Nat → Int32} {b_missed : Nat → Int32} {b_struck : Nat → Int32} {b_worstPath : Nat → Int32} {b_mostMissed : Nat → Int32} {b_mostStruck : Nat → Int32} {b_leastMissed : Nat → Int32} {b_held : Nat → Int32} {b_contents : Nat → Int64} {b_ages : Nat → Int32} {b_phase : Nat → Int32} {b_node : Nat → Int32} {b_sum : Nat → Int32} {b_saved : Nat → Int32} {b_greatest : Nat → Int32} {b_met : Nat → Int32} {b_unsure : Nat → Int32} {o k : Nat} (hn : n < 18) (hk : b_sorts n = 4) (ho : o + k ≤ 120) (hl : b_highs n ≤ b_lows n) (e : b_lows n = nI k) (H : post (h_sets, h_places, h_made, h_depth, h_size, nI (o + k), h_time, h_chosen, h_kept, h_worst, h_best, h_worstRuns, h_worstChoices, h_ends, h_bound, h_under, h_back, b_sorts, b_lows, b_highs, b_firsts, b_seconds, b_stack, b_pathsOf, b_lengthOf, b_choicesOf, pu_f b_todo o (b_firsts n) k, b_cache, b_path, b_tops, b_missed, b_struck, b_worstPath, b_mostMissed, b_mostStruck, b_leastMissed, b_held, b_contents, b_ages, b_phase, b_node, b_sum, b_saved, b_greatest, b_met, b_unsure)) : wpY_begin post (h_sets, h_places, h_made, h_depth, h_size, nI o, h_time, h_chosen, h_kept, h_worst, h_best, h_worstRuns, h_worstChoices, h_ends, h_bound, h_under, h_back, b_sorts, b_lows, b_highs, b_firsts, b_seconds, b_stack, b_pathsOf, b_lengthOf, b_choicesOf, b_todo, b_cache, b_path, b_tops, b_missed, b_struck, b_worstPath, b_mostMissed, b_mostStruck, b_leastMissed, b_held, b_contents, b_ages, b_phase, b_node, b_sum, b_saved, b_greatest, b_met, b_unsure) (nI n) := by
  have c : (nI n).toNatClampNeg = n := nI_clamp (by omega)
  have i : vp_in (nI n) 36 := vp_in_nI (by omega) (by omega)
  refine And.intro i (br_f (by rw [c, hk]; decide) ⟨i, br_f (by rw [c, hk]; decide) ⟨i, br_f (by rw [c, hk]; decide) ⟨i, br_f (by rw [c, hk]; decide) ⟨i, i, br_t (by rw [c]; exact hl) ⟨i, And.intro i ?_⟩⟩⟩⟩⟩)
  rw [c, e]
  exact yp_push (o := o) (k := k) (h_open := h_open) ho H
end
theorem yb_if2 {h_sets : Int32} {h_places : Int32} {h_made : Int32} {h_depth : Int32} {h_size : Int32} {h_open : Int32} {h_time : Int32} {h_chosen : Int32} {h_kept : Int32} {h_worst : Int32} {h_best : Int32} {h_worstRuns : Int32} {h_worstChoices : Int32} {h_ends : Int32} {h_bound : Int32} {h_under : Int32} {h_back : Int32} {b_sorts : Nat → Int32} {b_lows : Nat → Int32} {b_highs : Nat → Int32} {b_firsts : Nat → Int32} {b_seconds : Nat → Int32} {b_stack : Nat → Int32} {b_pathsOf : Nat → Int32} {b_lengthOf : Nat → Int32} {b_choicesOf : Nat → Int32} {b_todo : Nat → Int32} {b_cache : Nat → Int32} {b_path : Nat → Int32} {b_tops : Nat → Int32} {b_missed : Nat → Int32} {b_struck : Nat → Int32} {b_worstPath : Nat → Int32} {b_mostMissed : Nat → Int32} {b_mostStruck : Nat → Int32} {b_leastMissed : Nat → Int32} {b_held : Nat → Int32} {b_contents : Nat → Int64} {b_ages : Nat → Int32} {b_phase : Nat → Int32} {b_node : Nat → Int32} {b_sum : Nat → Int32} {b_saved : Nat → Int32} {b_greatest : Nat → Int32} {b_met : Nat → Int32} {b_unsure : Nat → Int32} {post : SY → Prop} {n o t kept k : Nat} {ypa' : Nat → Int32} (hn : n < 18) (hk : b_sorts n = 3) (ho : o + 1 ≤ 120) (ht : t < 20) (hkp : kept ≤ 20) (hc : h_chosen = nI t) (hkk : h_kept = nI kept) (hk2 : k < 2 ^ 31)
    (hd : (¬ t < kept ∧ ypa' = upd b_path t 0 ∧ k = 0) ∨ (t < kept ∧ ypa' = b_path ∧ b_path t = nI k))
    (H : post (h_sets, h_places, h_made, h_depth, h_size, nI (o + 1), h_time, nI (t + 1), h_kept, h_worst, h_best, h_worstRuns, h_worstChoices, h_ends, h_bound, h_under, h_back, b_sorts, b_lows, b_highs, b_firsts, b_seconds, b_stack, b_pathsOf, b_lengthOf, b_choicesOf, pu_f b_todo o (if k = 0 then b_firsts n else b_seconds n) 1, b_cache, ypa', upd b_tops t 1, b_missed, b_struck, b_worstPath, b_mostMissed, b_mostStruck, b_leastMissed, b_held, b_contents, b_ages, b_phase, b_node, b_sum, b_saved, b_greatest, b_met, b_unsure)) : wpY_begin post (h_sets, h_places, h_made, h_depth, h_size, nI o, h_time, h_chosen, h_kept, h_worst, h_best, h_worstRuns, h_worstChoices, h_ends, h_bound, h_under, h_back, b_sorts, b_lows, b_highs, b_firsts, b_seconds, b_stack, b_pathsOf, b_lengthOf, b_choicesOf, b_todo, b_cache, b_path, b_tops, b_missed, b_struck, b_worstPath, b_mostMissed, b_mostStruck, b_leastMissed, b_held, b_contents, b_ages, b_phase, b_node, b_sum, b_saved, b_greatest, b_met, b_unsure) (nI n) := by
  rcases hd with ⟨d1, d2, d3⟩ | ⟨d1, d2, d3⟩
  · subst d2 d3
    refine yb_if (h_open := h_open) hn hk ho ht hkp hc hkk (fun _ => ?_) (fun y => absurd y d1)
    rw [if_pos rfl] at H
    exact H
  · have z0 : (if b_path t = 0 then b_firsts n else b_seconds n) = (if k = 0 then b_firsts n else b_seconds n) := by
      by_cases y : k = 0
      · rw [if_pos y, if_pos (by rw [d3, y]; rfl)]
      · rw [if_neg y, if_neg (by rw [d3]; exact nI_ne0 (by omega) hk2)]
    rw [d2] at H
    refine yb_if (h_open := h_open) hn hk ho ht hkp hc hkk (fun y => absurd d1 y) (fun _ => ?_)
    rw [z0]
    exact H
theorem yb_loop2 {h_sets : Int32} {h_places : Int32} {h_made : Int32} {h_depth : Int32} {h_size : Int32} {h_open : Int32} {h_time : Int32} {h_chosen : Int32} {h_kept : Int32} {h_worst : Int32} {h_best : Int32} {h_worstRuns : Int32} {h_worstChoices : Int32} {h_ends : Int32} {h_bound : Int32} {h_under : Int32} {h_back : Int32} {b_sorts : Nat → Int32} {b_lows : Nat → Int32} {b_highs : Nat → Int32} {b_firsts : Nat → Int32} {b_seconds : Nat → Int32} {b_stack : Nat → Int32} {b_pathsOf : Nat → Int32} {b_lengthOf : Nat → Int32} {b_choicesOf : Nat → Int32} {b_todo : Nat → Int32} {b_cache : Nat → Int32} {b_path : Nat → Int32} {b_tops : Nat → Int32} {b_missed : Nat → Int32} {b_struck : Nat → Int32} {b_worstPath : Nat → Int32} {b_mostMissed : Nat → Int32} {b_mostStruck : Nat → Int32} {b_leastMissed : Nat → Int32} {b_held : Nat → Int32} {b_contents : Nat → Int64} {b_ages : Nat → Int32} {b_phase : Nat → Int32} {b_node : Nat → Int32} {b_sum : Nat → Int32} {b_saved : Nat → Int32} {b_greatest : Nat → Int32} {b_met : Nat → Int32} {b_unsure : Nat → Int32} {post : SY → Prop} {n o t kept k : Nat} {ypa' : Nat → Int32} (hn : n < 18) (hk : b_sorts n = 4) (ho : o + k ≤ 120) (ht : t < 20) (hkp : kept ≤ 20) (hc : h_chosen = nI t) (hkk : h_kept = nI kept) (hl : ¬ b_highs n ≤ b_lows n)
    (hd : (¬ t < kept ∧ ypa' = upd b_path t (b_lows n) ∧ b_lows n = nI k) ∨ (t < kept ∧ ypa' = b_path ∧ b_path t = nI k))
    (H : post (h_sets, h_places, h_made, h_depth, h_size, nI (o + k), h_time, nI (t + 1), h_kept, h_worst, h_best, h_worstRuns, h_worstChoices, h_ends, h_bound, h_under, h_back, b_sorts, b_lows, b_highs, b_firsts, b_seconds, b_stack, b_pathsOf, b_lengthOf, b_choicesOf, pu_f b_todo o (b_firsts n) k, b_cache, ypa', upd b_tops t (b_highs n), b_missed, b_struck, b_worstPath, b_mostMissed, b_mostStruck, b_leastMissed, b_held, b_contents, b_ages, b_phase, b_node, b_sum, b_saved, b_greatest, b_met, b_unsure)) : wpY_begin post (h_sets, h_places, h_made, h_depth, h_size, nI o, h_time, h_chosen, h_kept, h_worst, h_best, h_worstRuns, h_worstChoices, h_ends, h_bound, h_under, h_back, b_sorts, b_lows, b_highs, b_firsts, b_seconds, b_stack, b_pathsOf, b_lengthOf, b_choicesOf, b_todo, b_cache, b_path, b_tops, b_missed, b_struck, b_worstPath, b_mostMissed, b_mostStruck, b_leastMissed, b_held, b_contents, b_ages, b_phase, b_node, b_sum, b_saved, b_greatest, b_met, b_unsure) (nI n) := by
  rcases hd with ⟨d1, d2, d3⟩ | ⟨d1, d2, d3⟩
  · subst d2
    exact yb_loop (h_open := h_open) hn hk ho ht hkp hc hkk hl (fun _ => ⟨d3, H⟩) (fun y => absurd y d1)
  · subst d2
    exact yb_loop (h_open := h_open) hn hk ho ht hkp hc hkk hl (fun y => absurd d1 y) (fun _ => ⟨d3, H⟩)
end
section
/-! a run of X and a run of Y, step by step -/
def rl_G (g : Nat → Nat → Nat) (root w s kept : Nat) (q0 : Nat → Int32) (f_setBits : Int32) (f_placeCount : Int32) (f_made : Int32) (f_height : Int32) (f_pathCount : Int32) (f_greatestLength : Int32) (f_worstTime : Int32) (f_bestTime : Int32) (f_worstCount : Int32) (f_programBound : Int32) (f_endingCount : Int32) (f_chosen : Int32) (f_time : Int32) (a_kind : Nat → Int32) (a_first : Nat → Int32) (a_second : Nat → Int32) (a_low : Nat → Int32) (a_high : Nat → Int32) (a_parent : Nat → Int32) (a_pathsOf : Nat → Int32) (a_lengthOf : Nat → Int32) (a_choicesOf : Nat → Int32) (a_stack : Nat → Int32) (a_worstPath : Nat → Int32) (a_sureness : Nat → Int32) (a_mostMisses : Nat → Int32) (a_mostHits : Nat → Int32) (a_leastMisses : Nat → Int32) (a_endings : Nat → Int64) (a_runsHolding : Nat → Int32) (a_rounds : Nat → Int32) (a_path : Nat → Int32) (a_pathTop : Nat → Int32) (a_cache : Nat → Int32) (a_runMisses : Nat → Int32) (a_runHits : Nat → Int32) (a_table : Nat → Int32) (a_before : Nat → Int32) (a_behind : Nat → Int32) (h_sets : Int32) (h_places : Int32) (h_made : Int32) (h_depth : Int32) (h_size : Int32) (h_open : Int32) (h_time : Int32) (h_chosen : Int32) (h_kept : Int32) (h_worst : Int32) (h_best : Int32) (h_worstRuns : Int32) (h_worstChoices : Int32) (h_ends : Int32) (h_bound : Int32) (h_under : Int32) (h_back : Int32) (b_sorts : Nat → Int32) (b_lows : Nat → Int32) (b_highs : Nat → Int32) (b_firsts : Nat → Int32) (b_seconds : Nat → Int32) (b_stack : Nat → Int32) (b_pathsOf : Nat → Int32) (b_lengthOf : Nat → Int32) (b_choicesOf : Nat → Int32) (b_todo : Nat → Int32) (b_cache : Nat → Int32) (b_path : Nat → Int32) (b_tops : Nat → Int32) (b_missed : Nat → Int32) (b_struck : Nat → Int32) (b_worstPath : Nat → Int32) (b_mostMissed : Nat → Int32) (b_mostStruck : Nat → Int32) (b_leastMissed : Nat → Int32) (b_held : Nat → Int32) (b_contents : Nat → Int64) (b_ages : Nat → Int32) (b_phase : Nat → Int32) (b_node : Nat → Int32) (b_sum : Nat → Int32) (b_saved : Nat → Int32) (b_greatest : Nat → Int32) (b_met : Nat → Int32) (b_unsure : Nat → Int32) (at_ : Int32) (st : Nat) : Prop :=
  ∃ (i t c tt : Nat) (rd pa pt ca mi hi ypa yto yca ymi yst todo : Nat → Int32) (F1 F2 : Nat),
    rn_I g root w s kept q0 i t c [] pa pt ca mi hi ypa yto yca ymi yst ∧ tt ≤ 200000 ∧
    (∀ post : SX → Prop, post (f_setBits, f_placeCount, f_made, f_height, f_pathCount, f_greatestLength, f_worstTime, f_bestTime, f_worstCount, f_programBound, f_endingCount, nI t, nI tt, a_kind, a_first, a_second, a_low, a_high, a_parent, a_pathsOf, a_lengthOf, a_choicesOf, a_stack, a_worstPath, a_sureness, a_mostMisses, a_mostHits, a_leastMisses, a_endings, a_runsHolding, rd, pa, pt, ca, mi, hi, a_table, a_before, a_behind) → wX_doRun_8 post (nI root) F1 at_ (nI st) f_setBits f_placeCount f_made f_height f_pathCount f_greatestLength f_worstTime f_bestTime f_worstCount f_programBound f_endingCount f_chosen f_time a_kind a_first a_second a_low a_high a_parent a_pathsOf a_lengthOf a_choicesOf a_stack a_worstPath a_sureness a_mostMisses a_mostHits a_leastMisses a_endings a_runsHolding a_rounds a_path a_pathTop a_cache a_runMisses a_runHits a_table a_before a_behind) ∧
    (∀ post : SY → Prop, post (h_sets, h_places, h_made, h_depth, h_size, 0, nI tt, nI t, h_kept, h_worst, h_best, h_worstRuns, h_worstChoices, h_ends, h_bound, h_under, h_back, b_sorts, b_lows, b_highs, b_firsts, b_seconds, b_stack, b_pathsOf, b_lengthOf, b_choicesOf, todo, yca, ypa, yto, ymi, yst, b_worstPath, b_mostMissed, b_mostStruck, b_leastMissed, b_held, b_contents, b_ages, b_phase, b_node, b_sum, b_saved, b_greatest, b_met, b_unsure) → wY_run_75 post F2 h_sets h_places h_made h_depth h_size h_open h_time h_chosen h_kept h_worst h_best h_worstRuns h_worstChoices h_ends h_bound h_under h_back b_sorts b_lows b_highs b_firsts b_seconds b_stack b_pathsOf b_lengthOf b_choicesOf b_todo b_cache b_path b_tops b_missed b_struck b_worstPath b_mostMissed b_mostStruck b_leastMissed b_held b_contents b_ages b_phase b_node b_sum b_saved b_greatest b_met b_unsure)
theorem rl_step {g : Nat → Nat → Nat} {root w s kept : Nat} {q0 : Nat → Int32} {f_setBits : Int32} {f_placeCount : Int32} {f_made : Int32} {f_height : Int32} {f_pathCount : Int32} {f_greatestLength : Int32} {f_worstTime : Int32} {f_bestTime : Int32} {f_worstCount : Int32} {f_programBound : Int32} {f_endingCount : Int32} {f_chosen : Int32} {f_time : Int32} {a_kind : Nat → Int32} {a_first : Nat → Int32} {a_second : Nat → Int32} {a_low : Nat → Int32} {a_high : Nat → Int32} {a_parent : Nat → Int32} {a_pathsOf : Nat → Int32} {a_lengthOf : Nat → Int32} {a_choicesOf : Nat → Int32} {a_stack : Nat → Int32} {a_worstPath : Nat → Int32} {a_sureness : Nat → Int32} {a_mostMisses : Nat → Int32} {a_mostHits : Nat → Int32} {a_leastMisses : Nat → Int32} {a_endings : Nat → Int64} {a_runsHolding : Nat → Int32} {a_rounds : Nat → Int32} {a_path : Nat → Int32} {a_pathTop : Nat → Int32} {a_cache : Nat → Int32} {a_runMisses : Nat → Int32} {a_runHits : Nat → Int32} {a_table : Nat → Int32} {a_before : Nat → Int32} {a_behind : Nat → Int32} {h_sets : Int32} {h_places : Int32} {h_made : Int32} {h_depth : Int32} {h_size : Int32} {h_open : Int32} {h_time : Int32} {h_chosen : Int32} {h_kept : Int32} {h_worst : Int32} {h_best : Int32} {h_worstRuns : Int32} {h_worstChoices : Int32} {h_ends : Int32} {h_bound : Int32} {h_under : Int32} {h_back : Int32} {b_sorts : Nat → Int32} {b_lows : Nat → Int32} {b_highs : Nat → Int32} {b_firsts : Nat → Int32} {b_seconds : Nat → Int32} {b_stack : Nat → Int32} {b_pathsOf : Nat → Int32} {b_lengthOf : Nat → Int32} {b_choicesOf : Nat → Int32} {b_todo : Nat → Int32} {b_cache : Nat → Int32} {b_path : Nat → Int32} {b_tops : Nat → Int32} {b_missed : Nat → Int32} {b_struck : Nat → Int32} {b_worstPath : Nat → Int32} {b_mostMissed : Nat → Int32} {b_mostStruck : Nat → Int32} {b_leastMissed : Nat → Int32} {b_held : Nat → Int32} {b_contents : Nat → Int64} {b_ages : Nat → Int32} {b_phase : Nat → Int32} {b_node : Nat → Int32} {b_sum : Nat → Int32} {b_saved : Nat → Int32} {b_greatest : Nat → Int32} {b_met : Nat → Int32} {b_unsure : Nat → Int32} {at_ at2 : Int32} {st : Nat} {xch xtm yop ytm ych : Int32} {rd pa pt ca mi hi ypa yto yca ymi yst todo : Nat → Int32}
    (hX : ∀ (post : SX → Prop) F, wX_doRun_8 post (nI root) F at2 (nI (st + 1)) f_setBits f_placeCount f_made f_height f_pathCount f_greatestLength f_worstTime f_bestTime f_worstCount f_programBound f_endingCount xch xtm a_kind a_first a_second a_low a_high a_parent a_pathsOf a_lengthOf a_choicesOf a_stack a_worstPath a_sureness a_mostMisses a_mostHits a_leastMisses a_endings a_runsHolding rd pa pt ca mi hi a_table a_before a_behind → wX_doRun_8 post (nI root) (F + 1) at_ (nI st) f_setBits f_placeCount f_made f_height f_pathCount f_greatestLength f_worstTime f_bestTime f_worstCount f_programBound f_endingCount f_chosen f_time a_kind a_first a_second a_low a_high a_parent a_pathsOf a_lengthOf a_choicesOf a_stack a_worstPath a_sureness a_mostMisses a_mostHits a_leastMisses a_endings a_runsHolding a_rounds a_path a_pathTop a_cache a_runMisses a_runHits a_table a_before a_behind)
    (hY : ∀ F, ∃ F', ∀ post : SY → Prop, wY_run_75 post F h_sets h_places h_made h_depth h_size yop ytm ych h_kept h_worst h_best h_worstRuns h_worstChoices h_ends h_bound h_under h_back b_sorts b_lows b_highs b_firsts b_seconds b_stack b_pathsOf b_lengthOf b_choicesOf todo yca ypa yto ymi yst b_worstPath b_mostMissed b_mostStruck b_leastMissed b_held b_contents b_ages b_phase b_node b_sum b_saved b_greatest b_met b_unsure → wY_run_75 post F' h_sets h_places h_made h_depth h_size h_open h_time h_chosen h_kept h_worst h_best h_worstRuns h_worstChoices h_ends h_bound h_under h_back b_sorts b_lows b_highs b_firsts b_seconds b_stack b_pathsOf b_lengthOf b_choicesOf b_todo b_cache b_path b_tops b_missed b_struck b_worstPath b_mostMissed b_mostStruck b_leastMissed b_held b_contents b_ages b_phase b_node b_sum b_saved b_greatest b_met b_unsure)
    (G : rl_G g root w s kept q0 f_setBits f_placeCount f_made f_height f_pathCount f_greatestLength f_worstTime f_bestTime f_worstCount f_programBound f_endingCount xch xtm a_kind a_first a_second a_low a_high a_parent a_pathsOf a_lengthOf a_choicesOf a_stack a_worstPath a_sureness a_mostMisses a_mostHits a_leastMisses a_endings a_runsHolding rd pa pt ca mi hi a_table a_before a_behind h_sets h_places h_made h_depth h_size yop ytm ych h_kept h_worst h_best h_worstRuns h_worstChoices h_ends h_bound h_under h_back b_sorts b_lows b_highs b_firsts b_seconds b_stack b_pathsOf b_lengthOf b_choicesOf todo yca ypa yto ymi yst b_worstPath b_mostMissed b_mostStruck b_leastMissed b_held b_contents b_ages b_phase b_node b_sum b_saved b_greatest b_met b_unsure at2 (st + 1)) : rl_G g root w s kept q0 f_setBits f_placeCount f_made f_height f_pathCount f_greatestLength f_worstTime f_bestTime f_worstCount f_programBound f_endingCount f_chosen f_time a_kind a_first a_second a_low a_high a_parent a_pathsOf a_lengthOf a_choicesOf a_stack a_worstPath a_sureness a_mostMisses a_mostHits a_leastMisses a_endings a_runsHolding a_rounds a_path a_pathTop a_cache a_runMisses a_runHits a_table a_before a_behind h_sets h_places h_made h_depth h_size h_open h_time h_chosen h_kept h_worst h_best h_worstRuns h_worstChoices h_ends h_bound h_under h_back b_sorts b_lows b_highs b_firsts b_seconds b_stack b_pathsOf b_lengthOf b_choicesOf b_todo b_cache b_path b_tops b_missed b_struck b_worstPath b_mostMissed b_mostStruck b_leastMissed b_held b_contents b_ages b_phase b_node b_sum b_saved b_greatest b_met b_unsure at_ st := by
  obtain ⟨i, t, c, tt, rd', pa', pt', ca', mi', hi', ypa', yto', yca', ymi', yst', todo', F1, F2, e1, e2, e3, e4⟩ := G
  obtain ⟨F', e5⟩ := hY F2
  exact ⟨i, t, c, tt, rd', pa', pt', ca', mi', hi', ypa', yto', yca', ymi', yst', todo', F1 + 1, F', e1, e2, fun post h => hX post F1 (e3 post h), fun post h => e5 post (e4 post h)⟩
def rl_I (g : Nat → Nat → Nat) (root w s kept : Nat) (q0 : Nat → Int32) (N st : Nat) (at_ xch xtm yop ytm ych : Int32) (rd pa pt ca mi hi ypa yto yca ymi yst todo : Nat → Int32) : Prop :=
  ∃ (i t c tt j n : Nat) (L K : List Nat), rn_I g root w s kept q0 i t c L pa pt ca mi hi ypa yto yca ymi yst ∧ ch_x g root rd j n K ∧ td_L todo L ∧ yop = nI L.length ∧ xch = nI t ∧ ych = nI t ∧ xtm = nI tt ∧ ytm = nI tt ∧ tt + 50 * lm_m g L ≤ 200000 ∧ st + N ≤ 900000 ∧
   ((at_ = nI n ∧ L = n :: K ∧ 40 * lm_m g L ≤ N) ∨ (at_ = nI n ^^^ (-1) ∧ L = K ∧ 40 * lm_m g L + 1 + (root - n) ≤ N))
theorem pg_M1 {g : Nat → Nat → Nat} {n : Nat} (h : pg_n g n) : 1 ≤ g 8 n := by
  obtain ⟨-, -, h | h | h | h | h⟩ := h <;> omega
section
variable {g : Nat → Nat → Nat} {root w s kept R : Nat} {q0 : Nat → Int32}
/-- the step of X at a statement, opened -/
theorem xd_in {f_setBits : Int32} {f_placeCount : Int32} {f_made : Int32} {f_height : Int32} {f_pathCount : Int32} {f_greatestLength : Int32} {f_worstTime : Int32} {f_bestTime : Int32} {f_worstCount : Int32} {f_programBound : Int32} {f_endingCount : Int32} {f_chosen : Int32} {f_time : Int32} {a_kind : Nat → Int32} {a_first : Nat → Int32} {a_second : Nat → Int32} {a_low : Nat → Int32} {a_high : Nat → Int32} {a_parent : Nat → Int32} {a_pathsOf : Nat → Int32} {a_lengthOf : Nat → Int32} {a_choicesOf : Nat → Int32} {a_stack : Nat → Int32} {a_worstPath : Nat → Int32} {a_sureness : Nat → Int32} {a_mostMisses : Nat → Int32} {a_mostHits : Nat → Int32} {a_leastMisses : Nat → Int32} {a_endings : Nat → Int64} {a_runsHolding : Nat → Int32} {a_rounds : Nat → Int32} {a_path : Nat → Int32} {a_pathTop : Nat → Int32} {a_cache : Nat → Int32} {a_runMisses : Nat → Int32} {a_runHits : Nat → Int32} {a_table : Nat → Int32} {a_before : Nat → Int32} {a_behind : Nat → Int32} {post : SX → Prop} {F n st : Nat} (hn : n < 18) (hr : root < 18) (hst : st < 1000000) (h : wpX_enterInRun (fun r u => match u with | (f_setBits, f_placeCount, f_made, f_height, f_pathCount, f_greatestLength, f_worstTime, f_bestTime, f_worstCount, f_programBound, f_endingCount, f_chosen, f_time, a_kind, a_first, a_second, a_low, a_high, a_parent, a_pathsOf, a_lengthOf, a_choicesOf, a_stack, a_worstPath, a_sureness, a_mostMisses, a_mostHits, a_leastMisses, a_endings, a_runsHolding, a_rounds, a_path, a_pathTop, a_cache, a_runMisses, a_runHits, a_table, a_before, a_behind) => ∀ x3 : Int32, x3 = nI st + 1 → wX_doRun_8 post (nI root) F r x3 f_setBits f_placeCount f_made f_height f_pathCount f_greatestLength f_worstTime f_bestTime f_worstCount f_programBound f_endingCount f_chosen f_time a_kind a_first a_second a_low a_high a_parent a_pathsOf a_lengthOf a_choicesOf a_stack a_worstPath a_sureness a_mostMisses a_mostHits a_leastMisses a_endings a_runsHolding a_rounds a_path a_pathTop a_cache a_runMisses a_runHits a_table a_before a_behind) (f_setBits, f_placeCount, f_made, f_height, f_pathCount, f_greatestLength, f_worstTime, f_bestTime, f_worstCount, f_programBound, f_endingCount, f_chosen, f_time, a_kind, a_first, a_second, a_low, a_high, a_parent, a_pathsOf, a_lengthOf, a_choicesOf, a_stack, a_worstPath, a_sureness, a_mostMisses, a_mostHits, a_leastMisses, a_endings, a_runsHolding, a_rounds, a_path, a_pathTop, a_cache, a_runMisses, a_runHits, a_table, a_before, a_behind) (nI n)) : wX_doRun_8 post (nI root) (F + 1) (nI n) (nI st) f_setBits f_placeCount f_made f_height f_pathCount f_greatestLength f_worstTime f_bestTime f_worstCount f_programBound f_endingCount f_chosen f_time a_kind a_first a_second a_low a_high a_parent a_pathsOf a_lengthOf a_choicesOf a_stack a_worstPath a_sureness a_mostMisses a_mostHits a_leastMisses a_endings a_runsHolding a_rounds a_path a_pathTop a_cache a_runMisses a_runHits a_table a_before a_behind :=
  br_f (cm_ne hn hr) (br_f (nI_ge (b := 1000000) hst (by omega)) (br_f (cm_pos n hn) h))
theorem xd_out {f_setBits : Int32} {f_placeCount : Int32} {f_made : Int32} {f_height : Int32} {f_pathCount : Int32} {f_greatestLength : Int32} {f_worstTime : Int32} {f_bestTime : Int32} {f_worstCount : Int32} {f_programBound : Int32} {f_endingCount : Int32} {f_chosen : Int32} {f_time : Int32} {a_kind : Nat → Int32} {a_first : Nat → Int32} {a_second : Nat → Int32} {a_low : Nat → Int32} {a_high : Nat → Int32} {a_parent : Nat → Int32} {a_pathsOf : Nat → Int32} {a_lengthOf : Nat → Int32} {a_choicesOf : Nat → Int32} {a_stack : Nat → Int32} {a_worstPath : Nat → Int32} {a_sureness : Nat → Int32} {a_mostMisses : Nat → Int32} {a_mostHits : Nat → Int32} {a_leastMisses : Nat → Int32} {a_endings : Nat → Int64} {a_runsHolding : Nat → Int32} {a_rounds : Nat → Int32} {a_path : Nat → Int32} {a_pathTop : Nat → Int32} {a_cache : Nat → Int32} {a_runMisses : Nat → Int32} {a_runHits : Nat → Int32} {a_table : Nat → Int32} {a_before : Nat → Int32} {a_behind : Nat → Int32} {post : SX → Prop} {F n st : Nat} (hn : n < 18) (hr : root < 18) (hne : n ≠ root) (hst : st < 1000000) (h : wpX_leaveInRun (fun r u => match u with | (f_setBits, f_placeCount, f_made, f_height, f_pathCount, f_greatestLength, f_worstTime, f_bestTime, f_worstCount, f_programBound, f_endingCount, f_chosen, f_time, a_kind, a_first, a_second, a_low, a_high, a_parent, a_pathsOf, a_lengthOf, a_choicesOf, a_stack, a_worstPath, a_sureness, a_mostMisses, a_mostHits, a_leastMisses, a_endings, a_runsHolding, a_rounds, a_path, a_pathTop, a_cache, a_runMisses, a_runHits, a_table, a_before, a_behind) => ∀ x3 : Int32, x3 = nI st + 1 → wX_doRun_8 post (nI root) F r x3 f_setBits f_placeCount f_made f_height f_pathCount f_greatestLength f_worstTime f_bestTime f_worstCount f_programBound f_endingCount f_chosen f_time a_kind a_first a_second a_low a_high a_parent a_pathsOf a_lengthOf a_choicesOf a_stack a_worstPath a_sureness a_mostMisses a_mostHits a_leastMisses a_endings a_runsHolding a_rounds a_path a_pathTop a_cache a_runMisses a_runHits a_table a_before a_behind) (f_setBits, f_placeCount, f_made, f_height, f_pathCount, f_greatestLength, f_worstTime, f_bestTime, f_worstCount, f_programBound, f_endingCount, f_chosen, f_time, a_kind, a_first, a_second, a_low, a_high, a_parent, a_pathsOf, a_lengthOf, a_choicesOf, a_stack, a_worstPath, a_sureness, a_mostMisses, a_mostHits, a_leastMisses, a_endings, a_runsHolding, a_rounds, a_path, a_pathTop, a_cache, a_runMisses, a_runHits, a_table, a_before, a_behind) (nI n)) : wX_doRun_8 post (nI root) (F + 1) (nI n ^^^ (-1)) (nI st) f_setBits f_placeCount f_made f_height f_pathCount f_greatestLength f_worstTime f_bestTime f_worstCount f_programBound f_endingCount f_chosen f_time a_kind a_first a_second a_low a_high a_parent a_pathsOf a_lengthOf a_choicesOf a_stack a_worstPath a_sureness a_mostMisses a_mostHits a_leastMisses a_endings a_runsHolding a_rounds a_path a_pathTop a_cache a_runMisses a_runHits a_table a_before a_behind := by
  refine br_f (fun e => hne (cm_eq hn hr e)) (br_f (nI_ge (b := 1000000) hst (by omega)) (br_t (cm_neg n hn) ?_))
  rw [cm_cm n hn]
  exact h
theorem yd_in {h_sets : Int32} {h_places : Int32} {h_made : Int32} {h_depth : Int32} {h_size : Int32} {h_open : Int32} {h_time : Int32} {h_chosen : Int32} {h_kept : Int32} {h_worst : Int32} {h_best : Int32} {h_worstRuns : Int32} {h_worstChoices : Int32} {h_ends : Int32} {h_bound : Int32} {h_under : Int32} {h_back : Int32} {b_sorts : Nat → Int32} {b_lows : Nat → Int32} {b_highs : Nat → Int32} {b_firsts : Nat → Int32} {b_seconds : Nat → Int32} {b_stack : Nat → Int32} {b_pathsOf : Nat → Int32} {b_lengthOf : Nat → Int32} {b_choicesOf : Nat → Int32} {b_todo : Nat → Int32} {b_cache : Nat → Int32} {b_path : Nat → Int32} {b_tops : Nat → Int32} {b_missed : Nat → Int32} {b_struck : Nat → Int32} {b_worstPath : Nat → Int32} {b_mostMissed : Nat → Int32} {b_mostStruck : Nat → Int32} {b_leastMissed : Nat → Int32} {b_held : Nat → Int32} {b_contents : Nat → Int64} {b_ages : Nat → Int32} {b_phase : Nat → Int32} {b_node : Nat → Int32} {b_sum : Nat → Int32} {b_saved : Nat → Int32} {b_greatest : Nat → Int32} {b_met : Nat → Int32} {b_unsure : Nat → Int32} {post : SY → Prop} {F n o : Nat} (ho : o < 120) (ht : b_todo o = nI n) (h : wpY_begin (fun u => match u with | (h_sets, h_places, h_made, h_depth, h_size, h_open, h_time, h_chosen, h_kept, h_worst, h_best, h_worstRuns, h_worstChoices, h_ends, h_bound, h_under, h_back, b_sorts, b_lows, b_highs, b_firsts, b_seconds, b_stack, b_pathsOf, b_lengthOf, b_choicesOf, b_todo, b_cache, b_path, b_tops, b_missed, b_struck, b_worstPath, b_mostMissed, b_mostStruck, b_leastMissed, b_held, b_contents, b_ages, b_phase, b_node, b_sum, b_saved, b_greatest, b_met, b_unsure) => wY_run_75 post F h_sets h_places h_made h_depth h_size h_open h_time h_chosen h_kept h_worst h_best h_worstRuns h_worstChoices h_ends h_bound h_under h_back b_sorts b_lows b_highs b_firsts b_seconds b_stack b_pathsOf b_lengthOf b_choicesOf b_todo b_cache b_path b_tops b_missed b_struck b_worstPath b_mostMissed b_mostStruck b_leastMissed b_held b_contents b_ages b_phase b_node b_sum b_saved b_greatest b_met b_unsure) (h_sets, h_places, h_made, h_depth, h_size, nI o, h_time, h_chosen, h_kept, h_worst, h_best, h_worstRuns, h_worstChoices, h_ends, h_bound, h_under, h_back, b_sorts, b_lows, b_highs, b_firsts, b_seconds, b_stack, b_pathsOf, b_lengthOf, b_choicesOf, b_todo, b_cache, b_path, b_tops, b_missed, b_struck, b_worstPath, b_mostMissed, b_mostStruck, b_leastMissed, b_held, b_contents, b_ages, b_phase, b_node, b_sum, b_saved, b_greatest, b_met, b_unsure) (nI n)) : wY_run_75 post (F + 1) h_sets h_places h_made h_depth h_size (nI (o + 1)) h_time h_chosen h_kept h_worst h_best h_worstRuns h_worstChoices h_ends h_bound h_under h_back b_sorts b_lows b_highs b_firsts b_seconds b_stack b_pathsOf b_lengthOf b_choicesOf b_todo b_cache b_path b_tops b_missed b_struck b_worstPath b_mostMissed b_mostStruck b_leastMissed b_held b_contents b_ages b_phase b_node b_sum b_saved b_greatest b_met b_unsure := by
  have c : (nI o).toNatClampNeg = o := nI_clamp (by omega)
  refine br_f (nI_nle (by omega) (by omega)) (nm_r (nI_pred o) ⟨vp_in_nI ho (by omega), ?_⟩)
  rw [c, ht]
  exact h
end
end
section
set_option maxHeartbeats 4000000 in
theorem rl_all {g : Nat → Nat → Nat} {root w s kept R : Nat} {q0 : Nat → Int32} {f_setBits : Int32} {f_placeCount : Int32} {f_made : Int32} {f_height : Int32} {f_pathCount : Int32} {f_greatestLength : Int32} {f_worstTime : Int32} {f_bestTime : Int32} {f_worstCount : Int32} {f_programBound : Int32} {f_endingCount : Int32} {a_kind : Nat → Int32} {a_first : Nat → Int32} {a_second : Nat → Int32} {a_low : Nat → Int32} {a_high : Nat → Int32} {a_parent : Nat → Int32} {a_pathsOf : Nat → Int32} {a_lengthOf : Nat → Int32} {a_choicesOf : Nat → Int32} {a_stack : Nat → Int32} {a_worstPath : Nat → Int32} {a_sureness : Nat → Int32} {a_mostMisses : Nat → Int32} {a_mostHits : Nat → Int32} {a_leastMisses : Nat → Int32} {a_endings : Nat → Int64} {a_runsHolding : Nat → Int32} {a_table : Nat → Int32} {a_before : Nat → Int32} {a_behind : Nat → Int32} {h_sets : Int32} {h_places : Int32} {h_made : Int32} {h_depth : Int32} {h_size : Int32} {h_kept : Int32} {h_worst : Int32} {h_best : Int32} {h_worstRuns : Int32} {h_worstChoices : Int32} {h_ends : Int32} {h_bound : Int32} {h_under : Int32} {h_back : Int32} {b_sorts : Nat → Int32} {b_lows : Nat → Int32} {b_highs : Nat → Int32} {b_firsts : Nat → Int32} {b_seconds : Nat → Int32} {b_stack : Nat → Int32} {b_pathsOf : Nat → Int32} {b_lengthOf : Nat → Int32} {b_choicesOf : Nat → Int32} {b_worstPath : Nat → Int32} {b_mostMissed : Nat → Int32} {b_mostStruck : Nat → Int32} {b_leastMissed : Nat → Int32} {b_held : Nat → Int32} {b_contents : Nat → Int64} {b_ages : Nat → Int32} {b_phase : Nat → Int32} {b_node : Nat → Int32} {b_sum : Nat → Int32} {b_saved : Nat → Int32} {b_greatest : Nat → Int32} {b_met : Nat → Int32} {b_unsure : Nat → Int32}
    (T : pg_t g (root + 1)) (hr : root < 18) (hw0 : 0 < w) (hw : w ≤ 4) (hs0 : 0 < s) (hs : s ≤ 4) (hb : ∀ x y, x < 12 → y < 12 → ((nI x &&& f_setBits) = (nI y &&& f_setBits) ↔ x % s = y % s))
    (hpc : f_placeCount = nI w) (hsets : h_sets = nI s) (hpl : h_places = nI w) (hkk : h_kept = nI kept)
    (XT : ∀ n, n ≤ root → xt_n g a_kind a_first a_second a_low a_high a_parent n) (YT : ∀ n, n ≤ root → yt_n g 0 b_sorts b_lows b_highs b_firsts b_seconds n) (Pr : lm_pre g q0 root kept R) :
    ∀ (N st : Nat) (at_ f_chosen f_time h_open h_time h_chosen : Int32) (a_rounds a_path a_pathTop a_cache a_runMisses a_runHits b_path b_tops b_cache b_missed b_struck b_todo : Nat → Int32),
      rl_I g root w s kept q0 N st at_ f_chosen f_time h_open h_time h_chosen a_rounds a_path a_pathTop a_cache a_runMisses a_runHits b_path b_tops b_cache b_missed b_struck b_todo →
      rl_G g root w s kept q0 f_setBits f_placeCount f_made f_height f_pathCount f_greatestLength f_worstTime f_bestTime f_worstCount f_programBound f_endingCount f_chosen f_time a_kind a_first a_second a_low a_high a_parent a_pathsOf a_lengthOf a_choicesOf a_stack a_worstPath a_sureness a_mostMisses a_mostHits a_leastMisses a_endings a_runsHolding a_rounds a_path a_pathTop a_cache a_runMisses a_runHits a_table a_before a_behind h_sets h_places h_made h_depth h_size h_open h_time h_chosen h_kept h_worst h_best h_worstRuns h_worstChoices h_ends h_bound h_under h_back b_sorts b_lows b_highs b_firsts b_seconds b_stack b_pathsOf b_lengthOf b_choicesOf b_todo b_cache b_path b_tops b_missed b_struck b_worstPath b_mostMissed b_mostStruck b_leastMissed b_held b_contents b_ages b_phase b_node b_sum b_saved b_greatest b_met b_unsure at_ st := by
  intro N
  induction N with
  | zero =>
    intro st at_ f_chosen f_time h_open h_time h_chosen a_rounds a_path a_pathTop a_cache a_runMisses a_runHits b_path b_tops b_cache b_missed b_struck b_todo H
    exfalso
    obtain ⟨i, t, c, tt, j, n, L, K, I, Ch, Td, -, -, -, -, -, -, -, ⟨-, e, h⟩ | ⟨-, -, h⟩⟩ := H
    · have := pg_M1 (T n (by have := (ch_le Ch).1; omega))
      subst e
      dsimp only [lm_m] at h
      omega
    · omega
  | succ N ih =>
    intro st at_ f_chosen f_time h_open h_time h_chosen a_rounds a_path a_pathTop a_cache a_runMisses a_runHits b_path b_tops b_cache b_missed b_struck b_todo H
    obtain ⟨i, t, c, tt, j, n, L, K, I, Ch, Td, e1, e2, e3, e4, e5, hT, hst, P⟩ := H
    subst e1 e2 e3 e4 e5
    obtain ⟨hnr, hKl⟩ := ch_le Ch
    have hn : n < 18 := by omega
    have hkp : kept ≤ 20 := I.2.2.2.2.2.2.2.2
    rcases P with ⟨e1, e2, hN⟩ | ⟨e1, e2, hN⟩
    · subst e1 e2
      obtain ⟨Td1, Td2⟩ := Td
      have Pg := T n (by omega)
      have PgC := Pg
      obtain ⟨x1, x2, x3, x4, x5, x6⟩ := XT n hnr
      obtain ⟨y1, y2, y3, y4, y5⟩ := YT n hnr
      rw [Nat.zero_add] at y1 y2 y3 y4 y5
      dsimp only [lm_m] at hT hN
      have hKm : K.length < 118 := by omega
      obtain ⟨-, -, k | k | k | k | k⟩ := Pg
      · -- an access
        obtain ⟨k0, k1, -, -, -, -, -, -, km⟩ := k
        rw [k0] at x1 y1
        obtain ⟨a, ha, hag, hce⟩ := I.2.2.2.2.2.2.1.1 (g 1 n) k1
        have nc : ¬ lm_ch g n := by unfold lm_ch; omega
        have yl := y2 (by omega)
        by_cases z : a < w
        · have R' := cr_acc (ag' := ac_a s (g 1 n) a_cache) (ce' := sh_g b_cache (4 * (g 1 n % s)) a (nI (g 1 n))) (po := a) I.2.2.2.2.2.2.1 hw0 hw hs0 hs k1 hag ha (ac_val hw hag ha) (by rw [if_pos z]) (fun b p hb hp => sh_val b p hb hp (by omega))
          refine rl_step (at2 := nI n ^^^ (-1)) (xch := nI t) (xtm := nI (tt + 1)) (rd := a_rounds) (pa := a_path) (pt := a_pathTop) (ca := ac_a s (g 1 n) a_cache) (mi := a_runMisses) (hi := upd a_runHits n (a_runHits n + 1)) (yop := nI K.length) (ytm := nI (tt + 1)) (ych := nI t) (todo := b_todo) (ypa := b_path) (yto := b_tops) (yca := sh_g b_cache (4 * (g 1 n % s)) a (nI (g 1 n))) (ymi := b_missed) (yst := upd b_struck n (b_struck n + 1)) (fun post F h => xd_in hn hr (by omega) ?_) (fun F => ⟨F + 1, fun post h => yd_in (h_open := 0) (by omega) Td1 ?_⟩) (ih _ _ _ _ _ _ _ _ _ _ _ _ _ _ _ _ _ _ _ ⟨i + 1, t, c, tt + 1, j, n, K, K, rn_step PgC I nc (lm_leaf (by omega)) R' (fun x hx => ?_), Ch, Td2, rfl, rfl, rfl, rfl, rfl, by omega, by omega, Or.inr ⟨rfl, rfl, by omega⟩⟩)
          · refine xe_acc (s := s) hn x1 k1 hb x2 (fun _ => nm_r (nI_1 st) ?_) (fun y => absurd y (by rw [hpc, hag]; exact nI_ge z (by omega)))
            rw [nI_1]
            exact h
          · refine yb_acc hn y1 ?_
            rw [yl]
            refine yt_touch hn k1 hs0 hs hw0 hw hsets hpl ha hce (fun _ => ?_) (fun y => absurd z y)
            rw [nI_1]
            exact h
          · refine ⟨(I.2.2.2.2.2.2.2.1 x hx).1, ?_⟩
            by_cases y : x = n
            · subst y; rw [us_s, us_s, (I.2.2.2.2.2.2.2.1 x hx).2]
            · rw [us_n y, us_n y]; exact (I.2.2.2.2.2.2.2.1 x hx).2
        · have R' := cr_acc (ag' := ac_a s (g 1 n) a_cache) (ce' := sh_g b_cache (4 * (g 1 n % s)) (w - 1) (nI (g 1 n))) (po := w - 1) I.2.2.2.2.2.2.1 hw0 hw hs0 hs k1 hag ha (ac_val hw hag ha) (by rw [if_neg z]) (fun b p hb hp => sh_val b p hb hp (by omega))
          have e10 : nI tt + 10 = nI (tt + 10) := nI_add tt 10
          refine rl_step (at2 := nI n ^^^ (-1)) (xch := nI t) (xtm := nI (tt + 10)) (rd := a_rounds) (pa := a_path) (pt := a_pathTop) (ca := ac_a s (g 1 n) a_cache) (mi := upd a_runMisses n (a_runMisses n + 1)) (hi := a_runHits) (yop := nI K.length) (ytm := nI (tt + 10)) (ych := nI t) (todo := b_todo) (ypa := b_path) (yto := b_tops) (yca := sh_g b_cache (4 * (g 1 n % s)) (w - 1) (nI (g 1 n))) (ymi := upd b_missed n (b_missed n + 1)) (yst := b_struck) (fun post F h => xd_in hn hr (by omega) ?_) (fun F => ⟨F + 1, fun post h => yd_in (h_open := 0) (by omega) Td1 ?_⟩) (ih _ _ _ _ _ _ _ _ _ _ _ _ _ _ _ _ _ _ _ ⟨i + 1, t, c, tt + 10, j, n, K, K, rn_step PgC I nc (lm_leaf (by omega)) R' (fun x hx => ?_), Ch, Td2, rfl, rfl, rfl, rfl, rfl, by omega, by omega, Or.inr ⟨rfl, rfl, by omega⟩⟩)
          · refine xe_acc (s := s) hn x1 k1 hb x2 (fun y => absurd (by rw [hpc, hag]; exact nI_le (by omega) (by omega)) y) (fun _ => nm_r (nI_1 st) ?_)
            rw [e10]
            exact h
          · refine yb_acc hn y1 ?_
            rw [yl]
            refine yt_touch hn k1 hs0 hs hw0 hw hsets hpl ha hce (fun y => absurd y z) (fun _ => ?_)
            rw [e10]
            exact h
          · refine ⟨?_, (I.2.2.2.2.2.2.2.1 x hx).2⟩
            by_cases y : x = n
            · subst y; rw [us_s, us_s, (I.2.2.2.2.2.2.2.1 x hx).1]
            · rw [us_n y, us_n y]; exact (I.2.2.2.2.2.2.2.1 x hx).1
      · -- work
        obtain ⟨k0, k1, -, -, -, -, -, -, km⟩ := k
        rw [k0] at x1 y1
        have nc : ¬ lm_ch g n := by unfold lm_ch; omega
        have yl := y2 (by omega)
        refine rl_step (at2 := nI n ^^^ (-1)) (xch := nI t) (xtm := nI (tt + g 1 n)) (rd := a_rounds) (pa := a_path) (pt := a_pathTop) (ca := a_cache) (mi := a_runMisses) (hi := a_runHits) (yop := nI K.length) (ytm := nI (tt + g 1 n)) (ych := nI t) (todo := b_todo) (ypa := b_path) (yto := b_tops) (yca := b_cache) (ymi := b_missed) (yst := b_struck) (fun post F h => xd_in hn hr (by omega) ?_) (fun F => ⟨F + 1, fun post h => yd_in (h_open := 0) (by omega) Td1 ?_⟩) (ih _ _ _ _ _ _ _ _ _ _ _ _ _ _ _ _ _ _ _ ⟨i + 1, t, c, tt + g 1 n, j, n, K, K, rn_step PgC I nc (lm_leaf (by omega)) I.2.2.2.2.2.2.1 I.2.2.2.2.2.2.2.1, Ch, Td2, rfl, rfl, rfl, rfl, rfl, by omega, by omega, Or.inr ⟨rfl, rfl, by omega⟩⟩)
        · refine xe_work hn x1 (nm_r (nI_1 st) ?_)
          rw [x2, nI_add]
          exact h
        · refine yb_work hn y1 ?_
          rw [yl, nI_add]
          exact h
      · -- seq
        obtain ⟨k0, k1, k2, -, -, -, -, -, -, -, km⟩ := k
        rw [k0] at x1 y1
        have nc : ¬ lm_ch g n := by unfold lm_ch; omega
        have yf := y3 (by omega)
        have ys := y4 (by omega)
        refine rl_step (at2 := nI (g 1 n)) (xch := nI t) (xtm := nI tt) (rd := a_rounds) (pa := a_path) (pt := a_pathTop) (ca := a_cache) (mi := a_runMisses) (hi := a_runHits) (yop := nI (K.length + 1 + 1)) (ytm := nI tt) (ych := nI t) (todo := pu_f (pu_f b_todo K.length (b_seconds n) 1) (K.length + 1) (b_firsts n) 1) (ypa := b_path) (yto := b_tops) (yca := b_cache) (ymi := b_missed) (yst := b_struck) (fun post F h => xd_in hn hr (by omega) ?_) (fun F => ⟨F + 1, fun post h => yd_in (h_open := 0) (by omega) Td1 ?_⟩) (ih _ _ _ _ _ _ _ _ _ _ _ _ _ _ _ _ _ _ _ ⟨i + 1, t, c, tt, j + 1, g 1 n, g 1 n :: g 2 n :: K, g 2 n :: K, rn_step PgC I nc (lm_seq k0) I.2.2.2.2.2.2.1 I.2.2.2.2.2.2.2.1, ⟨n, K, by omega, hnr, Ch, Or.inl ⟨k0, rfl, rfl⟩⟩, td_push (td_push Td2 rfl ys) rfl yf, rfl, rfl, rfl, rfl, rfl, by dsimp only [lm_m]; omega, by omega, Or.inl ⟨rfl, rfl, by dsimp only [lm_m]; omega⟩⟩)
        · refine xe_seq hn x1 (nm_r (nI_1 st) ?_)
          rw [x2]
          exact h
        · exact yb_seq (h_open := 0) hn y1 (by omega) h
      · -- if
        obtain ⟨k0, k1, k2, -, -, kl, kh, -, -, -, km⟩ := k
        rw [k0] at x1 y1
        have hc : lm_ch g n := Or.inl k0
        have yf := y3 (by omega)
        have ys := y4 (by omega)
        have xs := (x6 (by omega)).1
        obtain ⟨q, pa', ypa', q1, q2, q4, ht, qe, qx, qy, qI⟩ := rn_pick PgC I Pr hc
        rw [kl] at x3
        rw [kh] at x4
        have hl : ¬ a_low n = a_high n := by rw [x3, x4]; decide
        have qx' : (a_path t = -4 ∧ pa' = upd a_path t (a_low n) ∧ a_low n = nI q) ∨ (¬ a_path t = -4 ∧ pa' = a_path ∧ a_path t = nI q) := by
          rcases qx with ⟨a, b, c⟩ | h
          · exact Or.inl ⟨a, by rw [b, kl, x3], by rw [x3, ← c, kl]⟩
          · exact Or.inr h
        have qy' : (¬ t < kept ∧ ypa' = upd b_path t 0 ∧ q = 0) ∨ (t < kept ∧ ypa' = b_path ∧ b_path t = nI q) := by
          rcases qy with ⟨a, b, c⟩ | h
          · exact Or.inl ⟨a, by rw [b, kl]; rfl, by omega⟩
          · exact Or.inr h
        rw [kh] at qI q2
        by_cases z : q = 0
        · have nx := qI _ _ (lm_if0 k0 (by rw [qe, z]; rfl))
          refine rl_step (at2 := nI (g 1 n)) (xch := nI (t + 1)) (xtm := nI tt) (rd := a_rounds) (pa := pa') (pt := upd a_pathTop t (nI 1)) (ca := a_cache) (mi := a_runMisses) (hi := a_runHits) (yop := nI (K.length + 1)) (ytm := nI tt) (ych := nI (t + 1)) (todo := pu_f b_todo K.length (b_firsts n) 1) (ypa := ypa') (yto := upd b_tops t (nI 1)) (yca := b_cache) (ymi := b_missed) (yst := b_struck) (fun post F h => xd_in hn hr (by omega) ?_) (fun F => ⟨F + 1, fun post h => yd_in (h_open := 0) (by omega) Td1 ?_⟩) (ih _ _ _ _ _ _ _ _ _ _ _ _ _ _ _ _ _ _ _ ⟨i + 1, t + 1, _, tt, j + 1, g 1 n, g 1 n :: K, K, nx, ⟨n, K, by omega, hnr, Ch, Or.inr (Or.inr (Or.inl ⟨k0, Or.inl rfl, rfl⟩))⟩, td_push Td2 rfl yf, rfl, rfl, rfl, rfl, rfl, by dsimp only [lm_m]; omega, by omega, Or.inl ⟨rfl, rfl, by dsimp only [lm_m]; omega⟩⟩)
          · refine xe_if2 hn x1 ht rfl hl (by omega) qx' (nm_r (nI_1 st) ?_)
            rw [if_pos z, x2, x4]
            exact h
          · refine yb_if2 (h_open := 0) hn y1 (by omega) ht hkp rfl hkk (by omega) qy' ?_
            rw [if_pos z]
            exact h
        · have nx := qI _ _ (lm_if1 k0 (by rw [qe]; exact nI_ne0 (by omega) (by omega)))
          refine rl_step (at2 := nI (g 2 n)) (xch := nI (t + 1)) (xtm := nI tt) (rd := a_rounds) (pa := pa') (pt := upd a_pathTop t (nI 1)) (ca := a_cache) (mi := a_runMisses) (hi := a_runHits) (yop := nI (K.length + 1)) (ytm := nI tt) (ych := nI (t + 1)) (todo := pu_f b_todo K.length (b_seconds n) 1) (ypa := ypa') (yto := upd b_tops t (nI 1)) (yca := b_cache) (ymi := b_missed) (yst := b_struck) (fun post F h => xd_in hn hr (by omega) ?_) (fun F => ⟨F + 1, fun post h => yd_in (h_open := 0) (by omega) Td1 ?_⟩) (ih _ _ _ _ _ _ _ _ _ _ _ _ _ _ _ _ _ _ _ ⟨i + 1, t + 1, _, tt, j + 1, g 2 n, g 2 n :: K, K, nx, ⟨n, K, by omega, hnr, Ch, Or.inr (Or.inr (Or.inl ⟨k0, Or.inr rfl, rfl⟩))⟩, td_push Td2 rfl ys, rfl, rfl, rfl, rfl, rfl, by dsimp only [lm_m]; omega, by omega, Or.inl ⟨rfl, rfl, by dsimp only [lm_m]; omega⟩⟩)
          · refine xe_if2 hn x1 ht rfl hl (by omega) qx' (nm_r (nI_1 st) ?_)
            rw [if_neg z, xs, x4]
            exact h
          · refine yb_if2 (h_open := 0) hn y1 (by omega) ht hkp rfl hkk (by omega) qy' ?_
            rw [if_neg z]
            exact h
      · -- loop
        obtain ⟨k0, k1, -, kl, kh, -, -, -, km⟩ := k
        rw [k0] at x1 y1
        have yf := y3 (by omega)
        obtain ⟨yl, yh⟩ := y5 k0
        have mono : ∀ k, k ≤ g 4 n → k * g 8 (g 1 n) ≤ g 4 n * g 8 (g 1 n) := fun k hk => Nat.mul_le_mul_right _ hk
        have tdk : ∀ k, td_L (pu_f b_todo K.length (b_firsts n) k) (List.replicate k (g 1 n) ++ K) := fun k => by rw [yf]; exact pu_td Td2 k
        have len : ∀ k, K.length + k = (List.replicate k (g 1 n) ++ K).length := fun k => by rw [List.length_append, List.length_replicate, Nat.add_comm]
        by_cases z : g 3 n < g 4 n
        · have hc : lm_ch g n := Or.inr ⟨by omega, z⟩
          obtain ⟨q, pa', ypa', q1, q2, q4, ht, qe, qx, qy, qI⟩ := rn_pick PgC I Pr hc
          have hl : ¬ a_low n = a_high n := by rw [x3, x4, nI_eq (by omega) (by omega)]; omega
          have hl2 : ¬ b_highs n ≤ b_lows n := by rw [yl, yh]; exact nI_ge z (by omega)
          have qx' : (a_path t = -4 ∧ pa' = upd a_path t (a_low n) ∧ a_low n = nI q) ∨ (¬ a_path t = -4 ∧ pa' = a_path ∧ a_path t = nI q) := by
            rcases qx with ⟨a, b, c⟩ | h
            · exact Or.inl ⟨a, by rw [b, x3], by rw [x3, c]⟩
            · exact Or.inr h
          have qy' : (¬ t < kept ∧ ypa' = upd b_path t (b_lows n) ∧ b_lows n = nI q) ∨ (t < kept ∧ ypa' = b_path ∧ b_path t = nI q) := by
            rcases qy with ⟨a, b, c⟩ | h
            · exact Or.inl ⟨a, by rw [b, yl], by rw [yl, c]⟩
            · exact Or.inr h
          have nx := qI _ _ (lm_lp1 k0 z qe (by omega))
          have mq := mono q q2
          cases q with
          | zero =>
            refine rl_step (at2 := nI n ^^^ (-1)) (xch := nI (t + 1)) (xtm := nI tt) (rd := upd a_rounds n 0) (pa := pa') (pt := upd a_pathTop t (nI (g 4 n))) (ca := a_cache) (mi := a_runMisses) (hi := a_runHits) (yop := nI (K.length + 0)) (ytm := nI tt) (ych := nI (t + 1)) (todo := pu_f b_todo K.length (b_firsts n) 0) (ypa := ypa') (yto := upd b_tops t (nI (g 4 n))) (yca := b_cache) (ymi := b_missed) (yst := b_struck) (fun post F h => xd_in hn hr (by omega) ?_) (fun F => ⟨F + 1, fun post h => yd_in (h_open := 0) (by omega) Td1 ?_⟩) (ih _ _ _ _ _ _ _ _ _ _ _ _ _ _ _ _ _ _ _ ⟨i + 1, t + 1, _, tt, j, n, K, K, nx, ch_upd Ch (fun p hp => us_n (by omega)), tdk 0, rfl, rfl, rfl, rfl, rfl, by omega, by omega, Or.inr ⟨rfl, rfl, by omega⟩⟩)
            · refine xe_loop2 hn x1 ht rfl hl q4 qx' (fun _ => nm_r (nI_1 st) ?_) (fun j hj => by omega)
              rw [x4]
              exact h
            · refine yb_loop2 (h_open := 0) hn y1 (by omega) ht hkp rfl hkk hl2 qy' ?_
              rw [yh]
              exact h
          | succ q =>
            refine rl_step (at2 := nI (g 1 n)) (xch := nI (t + 1)) (xtm := nI tt) (rd := upd (upd a_rounds n (nI (q + 1))) n (nI q)) (pa := pa') (pt := upd a_pathTop t (nI (g 4 n))) (ca := a_cache) (mi := a_runMisses) (hi := a_runHits) (yop := nI (K.length + (q + 1))) (ytm := nI tt) (ych := nI (t + 1)) (todo := pu_f b_todo K.length (b_firsts n) (q + 1)) (ypa := ypa') (yto := upd b_tops t (nI (g 4 n))) (yca := b_cache) (ymi := b_missed) (yst := b_struck) (fun post F h => xd_in hn hr (by omega) ?_) (fun F => ⟨F + 1, fun post h => yd_in (h_open := 0) (by omega) Td1 ?_⟩) (ih _ _ _ _ _ _ _ _ _ _ _ _ _ _ _ _ _ _ _ ⟨i + 1, t + 1, _, tt, j + 1, g 1 n, List.replicate (q + 1) (g 1 n) ++ K, List.replicate q (g 1 n) ++ K, nx, ⟨n, K, by omega, hnr, ch_upd Ch (fun p hp => by rw [us_n (by omega), us_n (by omega)]), Or.inr (Or.inr (Or.inr ⟨k0, rfl, q, by omega, us_s, rfl⟩))⟩, tdk (q + 1), by rw [len], rfl, rfl, rfl, rfl, by rw [lm_m_rep]; omega, by omega, Or.inl ⟨rfl, rfl, by rw [lm_m_rep]; omega⟩⟩)
            · refine xe_loop2 hn x1 ht rfl hl q4 qx' (fun hj => by omega) (fun j hj => nm_r (nI_1 st) ?_)
              have : j = q := by omega
              subst this
              rw [x2, x4]
              exact h
            · refine yb_loop2 (h_open := 0) hn y1 (by omega) ht hkp rfl hkk hl2 qy' ?_
              rw [yh]
              exact h
        · have e : g 3 n = g 4 n := by omega
          have nc : ¬ lm_ch g n := by unfold lm_ch; omega
          have nx := rn_step PgC I nc (lm_lp0 k0 z) I.2.2.2.2.2.2.1 I.2.2.2.2.2.2.2.1
          have hl : a_low n = a_high n := by rw [x3, x4, e]
          have hl2 : b_highs n ≤ b_lows n := by rw [yl, yh]; exact nI_le (by omega) (by omega)
          have mq := mono (g 3 n) kl
          have l4 : g 3 n ≤ 4 := by omega
          generalize g 3 n = q at *
          cases q with
          | zero =>
            refine rl_step (at2 := nI n ^^^ (-1)) (xch := nI t) (xtm := nI tt) (rd := upd a_rounds n 0) (pa := a_path) (pt := a_pathTop) (ca := a_cache) (mi := a_runMisses) (hi := a_runHits) (yop := nI (K.length + 0)) (ytm := nI tt) (ych := nI t) (todo := pu_f b_todo K.length (b_firsts n) 0) (ypa := b_path) (yto := b_tops) (yca := b_cache) (ymi := b_missed) (yst := b_struck) (fun post F h => xd_in hn hr (by omega) ?_) (fun F => ⟨F + 1, fun post h => yd_in (h_open := 0) (by omega) Td1 ?_⟩) (ih _ _ _ _ _ _ _ _ _ _ _ _ _ _ _ _ _ _ _ ⟨i + 1, t, _, tt, j, n, K, K, nx, ch_upd Ch (fun p hp => us_n (by omega)), tdk 0, rfl, rfl, rfl, rfl, rfl, by omega, by omega, Or.inr ⟨rfl, rfl, by omega⟩⟩)
            · exact xe_fix hn x1 hl l4 x3 (fun _ => nm_r (nI_1 st) h) (fun j hj => by omega)
            · exact yb_fix (h_open := 0) hn y1 (by omega) hl2 yl h
          | succ q =>
            refine rl_step (at2 := nI (g 1 n)) (xch := nI t) (xtm := nI tt) (rd := upd (upd a_rounds n (nI (q + 1))) n (nI q)) (pa := a_path) (pt := a_pathTop) (ca := a_cache) (mi := a_runMisses) (hi := a_runHits) (yop := nI (K.length + (q + 1))) (ytm := nI tt) (ych := nI t) (todo := pu_f b_todo K.length (b_firsts n) (q + 1)) (ypa := b_path) (yto := b_tops) (yca := b_cache) (ymi := b_missed) (yst := b_struck) (fun post F h => xd_in hn hr (by omega) ?_) (fun F => ⟨F + 1, fun post h => yd_in (h_open := 0) (by omega) Td1 ?_⟩) (ih _ _ _ _ _ _ _ _ _ _ _ _ _ _ _ _ _ _ _ ⟨i + 1, t, _, tt, j + 1, g 1 n, List.replicate (q + 1) (g 1 n) ++ K, List.replicate q (g 1 n) ++ K, nx, ⟨n, K, by omega, hnr, ch_upd Ch (fun p hp => by rw [us_n (by omega), us_n (by omega)]), Or.inr (Or.inr (Or.inr ⟨k0, rfl, q, by omega, us_s, rfl⟩))⟩, tdk (q + 1), by rw [len], rfl, rfl, rfl, rfl, by rw [lm_m_rep]; omega, by omega, Or.inl ⟨rfl, rfl, by rw [lm_m_rep]; omega⟩⟩)
            · refine xe_fix hn x1 hl l4 x3 (fun hj => by omega) (fun j hj => nm_r (nI_1 st) ?_)
              have : j = q := by omega
              subst this
              rw [x2]
              exact h
            · exact yb_fix (h_open := 0) hn y1 (by omega) hl2 yl h
    · subst e1 e2
      by_cases hroot : n = root
      · have hK : L = [] := by
          cases j with
          | zero => exact Ch.2
          | succ j => obtain ⟨p, K', h1, h2, -⟩ := Ch; omega
        subst hK
        subst hroot
        exact ⟨i, t, c, tt, a_rounds, a_path, a_pathTop, a_cache, a_runMisses, a_runHits, b_path, b_tops, b_cache, b_missed, b_struck, b_todo, 1, 1, I, by omega, fun post h => br_t rfl h, fun post h => br_t (by decide) h⟩
      · cases j with
        | zero => exact absurd Ch.1 hroot
        | succ j =>
          obtain ⟨p, K', hnp, hpr, Ch', hc⟩ := Ch
          have hp : p < 18 := by omega
          obtain ⟨x1, x2, x3, x4, x5, x6⟩ := XT p hpr
          have stay : ∀ F, ∃ F', ∀ post : SY → Prop, wY_run_75 post F h_sets h_places h_made h_depth h_size (nI L.length) (nI tt) (nI t) h_kept h_worst h_best h_worstRuns h_worstChoices h_ends h_bound h_under h_back b_sorts b_lows b_highs b_firsts b_seconds b_stack b_pathsOf b_lengthOf b_choicesOf b_todo b_cache b_path b_tops b_missed b_struck b_worstPath b_mostMissed b_mostStruck b_leastMissed b_held b_contents b_ages b_phase b_node b_sum b_saved b_greatest b_met b_unsure → wY_run_75 post F' h_sets h_places h_made h_depth h_size (nI L.length) (nI tt) (nI t) h_kept h_worst h_best h_worstRuns h_worstChoices h_ends h_bound h_under h_back b_sorts b_lows b_highs b_firsts b_seconds b_stack b_pathsOf b_lengthOf b_choicesOf b_todo b_cache b_path b_tops b_missed b_struck b_worstPath b_mostMissed b_mostStruck b_leastMissed b_held b_contents b_ages b_phase b_node b_sum b_saved b_greatest b_met b_unsure := fun F => ⟨F, fun _ h => h⟩
          rcases hc with ⟨k0, kn, kK⟩ | ⟨k0, kn, kK⟩ | ⟨k0, kn, kK⟩ | ⟨k0, kn, k, k3, kr, kK⟩
          · subst kn kK
            rw [k0] at x1
            refine rl_step (at2 := nI (g 2 p)) (xch := nI t) (xtm := nI tt) (rd := a_rounds) (pa := a_path) (pt := a_pathTop) (ca := a_cache) (mi := a_runMisses) (hi := a_runHits) (yop := nI (g 2 p :: K').length) (ytm := nI tt) (ych := nI t) (todo := b_todo) (ypa := b_path) (yto := b_tops) (yca := b_cache) (ymi := b_missed) (yst := b_struck) (fun post F h => xd_out hn hr hroot (by omega) ?_) stay (ih _ _ _ _ _ _ _ _ _ _ _ _ _ _ _ _ _ _ _ ⟨i, t, c, tt, j + 1, g 2 p, g 2 p :: K', K', I, ⟨p, K', ?_, hpr, Ch', Or.inr (Or.inl ⟨k0, rfl, rfl⟩)⟩, Td, rfl, rfl, rfl, rfl, rfl, hT, by omega, Or.inl ⟨rfl, rfl, by omega⟩⟩)
            · refine xl_seq1 hn hp (x5 (by omega)) x1 x2 (nm_r (nI_1 st) ?_)
              rw [(x6 (Or.inl k0)).1]
              exact h
            · obtain ⟨-, -, N | N | N | N | N⟩ := T p (by omega) <;> omega
          · subst kn kK
            rw [k0] at x1
            refine rl_step (at2 := nI p ^^^ (-1)) (xch := nI t) (xtm := nI tt) (rd := a_rounds) (pa := a_path) (pt := a_pathTop) (ca := a_cache) (mi := a_runMisses) (hi := a_runHits) (yop := nI L.length) (ytm := nI tt) (ych := nI t) (todo := b_todo) (ypa := b_path) (yto := b_tops) (yca := b_cache) (ymi := b_missed) (yst := b_struck) (fun post F h => xd_out hn hr hroot (by omega) ?_) stay (ih _ _ _ _ _ _ _ _ _ _ _ _ _ _ _ _ _ _ _ ⟨i, t, c, tt, j, p, L, L, I, Ch', Td, rfl, rfl, rfl, rfl, rfl, hT, by omega, Or.inr ⟨rfl, rfl, by omega⟩⟩)
            refine xl_up hn hp (x6 (Or.inl k0)).2 (by rw [x1]; decide) (fun _ => ?_) (nm_r (nI_1 st) h)
            have hlt : g 1 p < g 2 p := by obtain ⟨-, -, N | N | N | N | N⟩ := T p (by omega) <;> omega
            rw [x2, nI_eq (by omega) (by omega)]
            omega
          · subst kK
            rw [k0] at x1
            refine rl_step (at2 := nI p ^^^ (-1)) (xch := nI t) (xtm := nI tt) (rd := a_rounds) (pa := a_path) (pt := a_pathTop) (ca := a_cache) (mi := a_runMisses) (hi := a_runHits) (yop := nI L.length) (ytm := nI tt) (ych := nI t) (todo := b_todo) (ypa := b_path) (yto := b_tops) (yca := b_cache) (ymi := b_missed) (yst := b_struck) (fun post F h => xd_out hn hr hroot (by omega) ?_) stay (ih _ _ _ _ _ _ _ _ _ _ _ _ _ _ _ _ _ _ _ ⟨i, t, c, tt, j, p, L, L, I, Ch', Td, rfl, rfl, rfl, rfl, rfl, hT, by omega, Or.inr ⟨rfl, rfl, by omega⟩⟩)
            refine xl_up hn hp ?_ (by rw [x1]; decide) (fun y => absurd y (by rw [x1]; decide)) (nm_r (nI_1 st) h)
            rcases kn with kn | kn
            · subst kn; exact x5 (by omega)
            · subst kn; exact (x6 (Or.inr k0)).2
          · subst kn kK
            rw [k0] at x1
            cases k with
            | zero =>
              refine rl_step (at2 := nI p ^^^ (-1)) (xch := nI t) (xtm := nI tt) (rd := a_rounds) (pa := a_path) (pt := a_pathTop) (ca := a_cache) (mi := a_runMisses) (hi := a_runHits) (yop := nI (List.replicate 0 (g 1 p) ++ K').length) (ytm := nI tt) (ych := nI t) (todo := b_todo) (ypa := b_path) (yto := b_tops) (yca := b_cache) (ymi := b_missed) (yst := b_struck) (fun post F h => xd_out hn hr hroot (by omega) ?_) stay (ih _ _ _ _ _ _ _ _ _ _ _ _ _ _ _ _ _ _ _ ⟨i, t, c, tt, j, p, K', K', I, Ch', Td, rfl, rfl, rfl, rfl, rfl, hT, by omega, Or.inr ⟨rfl, rfl, ?_⟩⟩)
              · exact xl_loop hn hp (x5 (by omega)) x1 kr (by omega) (fun _ => nm_r (nI_1 st) h) (fun j hj => by omega)
              · have : lm_m g (List.replicate 0 (g 1 p) ++ K') = lm_m g K' := rfl
                omega
            | succ q =>
              refine rl_step (at2 := nI (g 1 p)) (xch := nI t) (xtm := nI tt) (rd := upd a_rounds p (nI q)) (pa := a_path) (pt := a_pathTop) (ca := a_cache) (mi := a_runMisses) (hi := a_runHits) (yop := nI (List.replicate (q + 1) (g 1 p) ++ K').length) (ytm := nI tt) (ych := nI t) (todo := b_todo) (ypa := b_path) (yto := b_tops) (yca := b_cache) (ymi := b_missed) (yst := b_struck) (fun post F h => xd_out hn hr hroot (by omega) ?_) stay (ih _ _ _ _ _ _ _ _ _ _ _ _ _ _ _ _ _ _ _ ⟨i, t, c, tt, j + 1, g 1 p, List.replicate (q + 1) (g 1 p) ++ K', List.replicate q (g 1 p) ++ K', I, ⟨p, K', hnp, hpr, ch_upd Ch' (fun x hx => us_n (by omega)), Or.inr (Or.inr (Or.inr ⟨k0, rfl, q, by omega, us_s, rfl⟩))⟩, Td, rfl, rfl, rfl, rfl, rfl, hT, by omega, Or.inl ⟨rfl, rfl, by omega⟩⟩)
              refine xl_loop hn hp (x5 (by omega)) x1 kr (by omega) (fun hj => by omega) (fun j hj => nm_r (nI_1 st) ?_)
              have : j = q := by omega
              subst this
              rw [x2]
              exact h
end
section
/-! one run of each, from its beginning -/
theorem xk_36 {f_setBits : Int32} {f_placeCount : Int32} {f_made : Int32} {f_height : Int32} {f_pathCount : Int32} {f_greatestLength : Int32} {f_worstTime : Int32} {f_bestTime : Int32} {f_worstCount : Int32} {f_programBound : Int32} {f_endingCount : Int32} {f_chosen : Int32} {f_time : Int32} {a_kind : Nat → Int32} {a_first : Nat → Int32} {a_second : Nat → Int32} {a_low : Nat → Int32} {a_high : Nat → Int32} {a_parent : Nat → Int32} {a_pathsOf : Nat → Int32} {a_lengthOf : Nat → Int32} {a_choicesOf : Nat → Int32} {a_stack : Nat → Int32} {a_worstPath : Nat → Int32} {a_sureness : Nat → Int32} {a_mostMisses : Nat → Int32} {a_mostHits : Nat → Int32} {a_leastMisses : Nat → Int32} {a_endings : Nat → Int64} {a_runsHolding : Nat → Int32} {a_rounds : Nat → Int32} {a_path : Nat → Int32} {a_pathTop : Nat → Int32} {a_cache : Nat → Int32} {a_runMisses : Nat → Int32} {a_runHits : Nat → Int32} {a_table : Nat → Int32} {a_before : Nat → Int32} {a_behind : Nat → Int32} {post : SX → Prop} (H : post (f_setBits, f_placeCount, f_made, f_height, f_pathCount, f_greatestLength, f_worstTime, f_bestTime, f_worstCount, f_programBound, f_endingCount, f_chosen, f_time, a_kind, a_first, a_second, a_low, a_high, a_parent, a_pathsOf, a_lengthOf, a_choicesOf, a_stack, a_worstPath, a_sureness, a_mostMisses, a_mostHits, a_leastMisses, a_endings, a_runsHolding, a_rounds, a_path, a_pathTop, a_cache, sw_f (fun _ => 0) a_runMisses 18, sw_f (fun _ => 0) a_runHits 18, a_table, a_before, a_behind)) :
    ∀ d i, i + d = 18 → wX_clearRun_36 post f_setBits f_placeCount f_made f_height f_pathCount f_greatestLength f_worstTime f_bestTime f_worstCount f_programBound f_endingCount f_chosen f_time (d + 1) (nI i) a_kind a_first a_second a_low a_high a_parent a_pathsOf a_lengthOf a_choicesOf a_stack a_worstPath a_sureness a_mostMisses a_mostHits a_leastMisses a_endings a_runsHolding a_rounds a_path a_pathTop a_cache (sw_f (fun _ => 0) a_runMisses i) (sw_f (fun _ => 0) a_runHits i) a_table a_before a_behind := by
  intro d
  induction d with
  | zero =>
    intro i hi
    have hi : i = 18 := by omega
    subst hi
    exact br_t (by decide) H
  | succ d ih =>
    intro i hi
    have c : (nI i).toNatClampNeg = i := nI_clamp (by omega)
    have ii : vp_in (nI i) 18 := vp_in_nI (by omega) (by omega)
    refine br_f (nI_ge (b := 18) (by omega) (by omega)) ⟨ii, um_u c ⟨ii, um_u c (nm_r (nI_1 i) ?_)⟩⟩
    rw [sw_u rfl, sw_u rfl]
    exact ih (i + 1) (by omega)
theorem xk_12 {f_setBits : Int32} {f_placeCount : Int32} {f_made : Int32} {f_height : Int32} {f_pathCount : Int32} {f_greatestLength : Int32} {f_worstTime : Int32} {f_bestTime : Int32} {f_worstCount : Int32} {f_programBound : Int32} {f_endingCount : Int32} {f_chosen : Int32} {f_time : Int32} {a_kind : Nat → Int32} {a_first : Nat → Int32} {a_second : Nat → Int32} {a_low : Nat → Int32} {a_high : Nat → Int32} {a_parent : Nat → Int32} {a_pathsOf : Nat → Int32} {a_lengthOf : Nat → Int32} {a_choicesOf : Nat → Int32} {a_stack : Nat → Int32} {a_worstPath : Nat → Int32} {a_sureness : Nat → Int32} {a_mostMisses : Nat → Int32} {a_mostHits : Nat → Int32} {a_leastMisses : Nat → Int32} {a_endings : Nat → Int64} {a_runsHolding : Nat → Int32} {a_rounds : Nat → Int32} {a_path : Nat → Int32} {a_pathTop : Nat → Int32} {a_cache : Nat → Int32} {a_runMisses : Nat → Int32} {a_runHits : Nat → Int32} {a_table : Nat → Int32} {a_before : Nat → Int32} {a_behind : Nat → Int32} {post : SX → Prop} (H : post (f_setBits, f_placeCount, f_made, f_height, f_pathCount, f_greatestLength, f_worstTime, f_bestTime, f_worstCount, f_programBound, f_endingCount, f_chosen, f_time, a_kind, a_first, a_second, a_low, a_high, a_parent, a_pathsOf, a_lengthOf, a_choicesOf, a_stack, a_worstPath, a_sureness, a_mostMisses, a_mostHits, a_leastMisses, a_endings, a_runsHolding, a_rounds, a_path, a_pathTop, sw_f (fun _ => f_placeCount) a_cache 12, sw_f (fun _ => 0) a_runMisses 18, sw_f (fun _ => 0) a_runHits 18, a_table, a_before, a_behind)) :
    ∀ d i, i + d = 12 → wX_clearRun_12 post f_setBits f_placeCount f_made f_height f_pathCount f_greatestLength f_worstTime f_bestTime f_worstCount f_programBound f_endingCount f_chosen f_time (d + 1) (nI i) a_kind a_first a_second a_low a_high a_parent a_pathsOf a_lengthOf a_choicesOf a_stack a_worstPath a_sureness a_mostMisses a_mostHits a_leastMisses a_endings a_runsHolding a_rounds a_path a_pathTop (sw_f (fun _ => f_placeCount) a_cache i) a_runMisses a_runHits a_table a_before a_behind := by
  intro d
  induction d with
  | zero =>
    intro i hi
    have hi : i = 12 := by omega
    subst hi
    have L := xk_36 (a_runMisses := a_runMisses) (a_runHits := a_runHits) H 18 0 (by omega)
    rw [sw_0, sw_0] at L
    exact br_t (by decide) ⟨19, L⟩
  | succ d ih =>
    intro i hi
    have c : (nI i).toNatClampNeg = i := nI_clamp (by omega)
    have ii : vp_in (nI i) 12 := vp_in_nI (by omega) (by omega)
    refine br_f (nI_ge (b := 12) (by omega) (by omega)) ⟨ii, um_u c (nm_r (nI_1 i) ?_)⟩
    rw [sw_u rfl]
    exact ih (i + 1) (by omega)
theorem xk_clear {f_setBits : Int32} {f_placeCount : Int32} {f_made : Int32} {f_height : Int32} {f_pathCount : Int32} {f_greatestLength : Int32} {f_worstTime : Int32} {f_bestTime : Int32} {f_worstCount : Int32} {f_programBound : Int32} {f_endingCount : Int32} {f_chosen : Int32} {f_time : Int32} {a_kind : Nat → Int32} {a_first : Nat → Int32} {a_second : Nat → Int32} {a_low : Nat → Int32} {a_high : Nat → Int32} {a_parent : Nat → Int32} {a_pathsOf : Nat → Int32} {a_lengthOf : Nat → Int32} {a_choicesOf : Nat → Int32} {a_stack : Nat → Int32} {a_worstPath : Nat → Int32} {a_sureness : Nat → Int32} {a_mostMisses : Nat → Int32} {a_mostHits : Nat → Int32} {a_leastMisses : Nat → Int32} {a_endings : Nat → Int64} {a_runsHolding : Nat → Int32} {a_rounds : Nat → Int32} {a_path : Nat → Int32} {a_pathTop : Nat → Int32} {a_cache : Nat → Int32} {a_runMisses : Nat → Int32} {a_runHits : Nat → Int32} {a_table : Nat → Int32} {a_before : Nat → Int32} {a_behind : Nat → Int32} {post : SX → Prop} (H : post (f_setBits, f_placeCount, f_made, f_height, f_pathCount, f_greatestLength, f_worstTime, f_bestTime, f_worstCount, f_programBound, f_endingCount, 0, 0, a_kind, a_first, a_second, a_low, a_high, a_parent, a_pathsOf, a_lengthOf, a_choicesOf, a_stack, a_worstPath, a_sureness, a_mostMisses, a_mostHits, a_leastMisses, a_endings, a_runsHolding, a_rounds, a_path, a_pathTop, sw_f (fun _ => f_placeCount) a_cache 12, sw_f (fun _ => 0) a_runMisses 18, sw_f (fun _ => 0) a_runHits 18, a_table, a_before, a_behind)) : wpX_clearRun post (f_setBits, f_placeCount, f_made, f_height, f_pathCount, f_greatestLength, f_worstTime, f_bestTime, f_worstCount, f_programBound, f_endingCount, f_chosen, f_time, a_kind, a_first, a_second, a_low, a_high, a_parent, a_pathsOf, a_lengthOf, a_choicesOf, a_stack, a_worstPath, a_sureness, a_mostMisses, a_mostHits, a_leastMisses, a_endings, a_runsHolding, a_rounds, a_path, a_pathTop, a_cache, a_runMisses, a_runHits, a_table, a_before, a_behind) := by
  have L := xk_12 (a_cache := a_cache) H 12 0 (by omega)
  rw [sw_0] at L
  exact Exists.intro 13 L
theorem yk_38 {h_sets : Int32} {h_places : Int32} {h_made : Int32} {h_depth : Int32} {h_size : Int32} {h_open : Int32} {h_time : Int32} {h_chosen : Int32} {h_kept : Int32} {h_worst : Int32} {h_best : Int32} {h_worstRuns : Int32} {h_worstChoices : Int32} {h_ends : Int32} {h_bound : Int32} {h_under : Int32} {h_back : Int32} {b_sorts : Nat → Int32} {b_lows : Nat → Int32} {b_highs : Nat → Int32} {b_firsts : Nat → Int32} {b_seconds : Nat → Int32} {b_stack : Nat → Int32} {b_pathsOf : Nat → Int32} {b_lengthOf : Nat → Int32} {b_choicesOf : Nat → Int32} {b_todo : Nat → Int32} {b_cache : Nat → Int32} {b_path : Nat → Int32} {b_tops : Nat → Int32} {b_missed : Nat → Int32} {b_struck : Nat → Int32} {b_worstPath : Nat → Int32} {b_mostMissed : Nat → Int32} {b_mostStruck : Nat → Int32} {b_leastMissed : Nat → Int32} {b_held : Nat → Int32} {b_contents : Nat → Int64} {b_ages : Nat → Int32} {b_phase : Nat → Int32} {b_node : Nat → Int32} {b_sum : Nat → Int32} {b_saved : Nat → Int32} {b_greatest : Nat → Int32} {b_met : Nat → Int32} {b_unsure : Nat → Int32} {post : SY → Prop} (H : wpY_push (fun u => match u with | (h_sets, h_places, h_made, h_depth, h_size, h_open, h_time, h_chosen, h_kept, h_worst, h_best, h_worstRuns, h_worstChoices, h_ends, h_bound, h_under, h_back, b_sorts, b_lows, b_highs, b_firsts, b_seconds, b_stack, b_pathsOf, b_lengthOf, b_choicesOf, b_todo, b_cache, b_path, b_tops, b_missed, b_struck, b_worstPath, b_mostMissed, b_mostStruck, b_leastMissed, b_held, b_contents, b_ages, b_phase, b_node, b_sum, b_saved, b_greatest, b_met, b_unsure) => ∃ n : Nat, wY_run_75 post n h_sets h_places h_made h_depth h_size h_open h_time h_chosen h_kept h_worst h_best h_worstRuns h_worstChoices h_ends h_bound h_under h_back b_sorts b_lows b_highs b_firsts b_seconds b_stack b_pathsOf b_lengthOf b_choicesOf b_todo b_cache b_path b_tops b_missed b_struck b_worstPath b_mostMissed b_mostStruck b_leastMissed b_held b_contents b_ages b_phase b_node b_sum b_saved b_greatest b_met b_unsure) (h_sets, h_places, h_made, h_depth, h_size, h_open, h_time, h_chosen, h_kept, h_worst, h_best, h_worstRuns, h_worstChoices, h_ends, h_bound, h_under, h_back, b_sorts, b_lows, b_highs, b_firsts, b_seconds, b_stack, b_pathsOf, b_lengthOf, b_choicesOf, b_todo, b_cache, b_path, b_tops, sw_f (fun _ => 0) b_missed 18, sw_f (fun _ => 0) b_struck 18, b_worstPath, b_mostMissed, b_mostStruck, b_leastMissed, b_held, b_contents, b_ages, b_phase, b_node, b_sum, b_saved, b_greatest, b_met, b_unsure) (h_size - 1) 1) :
    ∀ d i, i + d = 18 → wY_run_38 post h_sets h_places h_made h_depth h_size h_open h_time h_chosen h_kept h_worst h_best h_worstRuns h_worstChoices h_ends h_bound h_under h_back (d + 1) (nI i) b_sorts b_lows b_highs b_firsts b_seconds b_stack b_pathsOf b_lengthOf b_choicesOf b_todo b_cache b_path b_tops (sw_f (fun _ => 0) b_missed i) (sw_f (fun _ => 0) b_struck i) b_worstPath b_mostMissed b_mostStruck b_leastMissed b_held b_contents b_ages b_phase b_node b_sum b_saved b_greatest b_met b_unsure := by
  intro d
  induction d with
  | zero =>
    intro i hi
    have hi : i = 18 := by omega
    subst hi
    exact br_t (by decide) H
  | succ d ih =>
    intro i hi
    have c : (nI i).toNatClampNeg = i := nI_clamp (by omega)
    have ii : vp_in (nI i) 18 := vp_in_nI (by omega) (by omega)
    refine br_f (nI_ge (b := 18) (by omega) (by omega)) ⟨ii, um_u c ⟨ii, um_u c (nm_r (nI_1 i) ?_)⟩⟩
    rw [sw_u rfl, sw_u rfl]
    exact ih (i + 1) (by omega)
theorem yk_17 {h_sets : Int32} {h_places : Int32} {h_made : Int32} {h_depth : Int32} {h_size : Int32} {h_open : Int32} {h_time : Int32} {h_chosen : Int32} {h_kept : Int32} {h_worst : Int32} {h_best : Int32} {h_worstRuns : Int32} {h_worstChoices : Int32} {h_ends : Int32} {h_bound : Int32} {h_under : Int32} {h_back : Int32} {b_sorts : Nat → Int32} {b_lows : Nat → Int32} {b_highs : Nat → Int32} {b_firsts : Nat → Int32} {b_seconds : Nat → Int32} {b_stack : Nat → Int32} {b_pathsOf : Nat → Int32} {b_lengthOf : Nat → Int32} {b_choicesOf : Nat → Int32} {b_todo : Nat → Int32} {b_cache : Nat → Int32} {b_path : Nat → Int32} {b_tops : Nat → Int32} {b_missed : Nat → Int32} {b_struck : Nat → Int32} {b_worstPath : Nat → Int32} {b_mostMissed : Nat → Int32} {b_mostStruck : Nat → Int32} {b_leastMissed : Nat → Int32} {b_held : Nat → Int32} {b_contents : Nat → Int64} {b_ages : Nat → Int32} {b_phase : Nat → Int32} {b_node : Nat → Int32} {b_sum : Nat → Int32} {b_saved : Nat → Int32} {b_greatest : Nat → Int32} {b_met : Nat → Int32} {b_unsure : Nat → Int32} {post : SY → Prop} (H : wpY_push (fun u => match u with | (h_sets, h_places, h_made, h_depth, h_size, h_open, h_time, h_chosen, h_kept, h_worst, h_best, h_worstRuns, h_worstChoices, h_ends, h_bound, h_under, h_back, b_sorts, b_lows, b_highs, b_firsts, b_seconds, b_stack, b_pathsOf, b_lengthOf, b_choicesOf, b_todo, b_cache, b_path, b_tops, b_missed, b_struck, b_worstPath, b_mostMissed, b_mostStruck, b_leastMissed, b_held, b_contents, b_ages, b_phase, b_node, b_sum, b_saved, b_greatest, b_met, b_unsure) => ∃ n : Nat, wY_run_75 post n h_sets h_places h_made h_depth h_size h_open h_time h_chosen h_kept h_worst h_best h_worstRuns h_worstChoices h_ends h_bound h_under h_back b_sorts b_lows b_highs b_firsts b_seconds b_stack b_pathsOf b_lengthOf b_choicesOf b_todo b_cache b_path b_tops b_missed b_struck b_worstPath b_mostMissed b_mostStruck b_leastMissed b_held b_contents b_ages b_phase b_node b_sum b_saved b_greatest b_met b_unsure) (h_sets, h_places, h_made, h_depth, h_size, h_open, h_time, h_chosen, h_kept, h_worst, h_best, h_worstRuns, h_worstChoices, h_ends, h_bound, h_under, h_back, b_sorts, b_lows, b_highs, b_firsts, b_seconds, b_stack, b_pathsOf, b_lengthOf, b_choicesOf, b_todo, sw_f (fun _ => -1) b_cache 16, b_path, b_tops, sw_f (fun _ => 0) b_missed 18, sw_f (fun _ => 0) b_struck 18, b_worstPath, b_mostMissed, b_mostStruck, b_leastMissed, b_held, b_contents, b_ages, b_phase, b_node, b_sum, b_saved, b_greatest, b_met, b_unsure) (h_size - 1) 1) :
    ∀ d i, i + d = 16 → wY_run_17 post h_sets h_places h_made h_depth h_size h_open h_time h_chosen h_kept h_worst h_best h_worstRuns h_worstChoices h_ends h_bound h_under h_back (d + 1) (nI i) b_sorts b_lows b_highs b_firsts b_seconds b_stack b_pathsOf b_lengthOf b_choicesOf b_todo (sw_f (fun _ => -1) b_cache i) b_path b_tops b_missed b_struck b_worstPath b_mostMissed b_mostStruck b_leastMissed b_held b_contents b_ages b_phase b_node b_sum b_saved b_greatest b_met b_unsure := by
  intro d
  induction d with
  | zero =>
    intro i hi
    have hi : i = 16 := by omega
    subst hi
    have L := yk_38 (b_missed := b_missed) (b_struck := b_struck) H 18 0 (by omega)
    rw [sw_0, sw_0] at L
    exact br_t (by decide) ⟨19, L⟩
  | succ d ih =>
    intro i hi
    have c : (nI i).toNatClampNeg = i := nI_clamp (by omega)
    have ii : vp_in (nI i) 16 := vp_in_nI (by omega) (by omega)
    refine br_f (nI_ge (b := 16) (by omega) (by omega)) ⟨ii, um_u c (nm_r (nI_1 i) ?_)⟩
    rw [sw_u rfl]
    exact ih (i + 1) (by omega)
theorem yk_run {h_sets : Int32} {h_places : Int32} {h_made : Int32} {h_depth : Int32} {h_size : Int32} {h_open : Int32} {h_time : Int32} {h_chosen : Int32} {h_kept : Int32} {h_worst : Int32} {h_best : Int32} {h_worstRuns : Int32} {h_worstChoices : Int32} {h_ends : Int32} {h_bound : Int32} {h_under : Int32} {h_back : Int32} {b_sorts : Nat → Int32} {b_lows : Nat → Int32} {b_highs : Nat → Int32} {b_firsts : Nat → Int32} {b_seconds : Nat → Int32} {b_stack : Nat → Int32} {b_pathsOf : Nat → Int32} {b_lengthOf : Nat → Int32} {b_choicesOf : Nat → Int32} {b_todo : Nat → Int32} {b_cache : Nat → Int32} {b_path : Nat → Int32} {b_tops : Nat → Int32} {b_missed : Nat → Int32} {b_struck : Nat → Int32} {b_worstPath : Nat → Int32} {b_mostMissed : Nat → Int32} {b_mostStruck : Nat → Int32} {b_leastMissed : Nat → Int32} {b_held : Nat → Int32} {b_contents : Nat → Int64} {b_ages : Nat → Int32} {b_phase : Nat → Int32} {b_node : Nat → Int32} {b_sum : Nat → Int32} {b_saved : Nat → Int32} {b_greatest : Nat → Int32} {b_met : Nat → Int32} {b_unsure : Nat → Int32} {post : SY → Prop} {root F : Nat} (hsz : h_size = nI (root + 1)) (H : wY_run_75 post F h_sets h_places h_made h_depth h_size (nI 1) 0 0 h_kept h_worst h_best h_worstRuns h_worstChoices h_ends h_bound h_under h_back b_sorts b_lows b_highs b_firsts b_seconds b_stack b_pathsOf b_lengthOf b_choicesOf (pu_f b_todo 0 (nI root) 1) (sw_f (fun _ => -1) b_cache 16) b_path b_tops (sw_f (fun _ => 0) b_missed 18) (sw_f (fun _ => 0) b_struck 18) b_worstPath b_mostMissed b_mostStruck b_leastMissed b_held b_contents b_ages b_phase b_node b_sum b_saved b_greatest b_met b_unsure) : wpY_run post (h_sets, h_places, h_made, h_depth, h_size, h_open, h_time, h_chosen, h_kept, h_worst, h_best, h_worstRuns, h_worstChoices, h_ends, h_bound, h_under, h_back, b_sorts, b_lows, b_highs, b_firsts, b_seconds, b_stack, b_pathsOf, b_lengthOf, b_choicesOf, b_todo, b_cache, b_path, b_tops, b_missed, b_struck, b_worstPath, b_mostMissed, b_mostStruck, b_leastMissed, b_held, b_contents, b_ages, b_phase, b_node, b_sum, b_saved, b_greatest, b_met, b_unsure) := by
  subst hsz
  have P : wpY_push (fun u => match u with | (h_sets, h_places, h_made, h_depth, h_size, h_open, h_time, h_chosen, h_kept, h_worst, h_best, h_worstRuns, h_worstChoices, h_ends, h_bound, h_under, h_back, b_sorts, b_lows, b_highs, b_firsts, b_seconds, b_stack, b_pathsOf, b_lengthOf, b_choicesOf, b_todo, b_cache, b_path, b_tops, b_missed, b_struck, b_worstPath, b_mostMissed, b_mostStruck, b_leastMissed, b_held, b_contents, b_ages, b_phase, b_node, b_sum, b_saved, b_greatest, b_met, b_unsure) => ∃ n : Nat, wY_run_75 post n h_sets h_places h_made h_depth h_size h_open h_time h_chosen h_kept h_worst h_best h_worstRuns h_worstChoices h_ends h_bound h_under h_back b_sorts b_lows b_highs b_firsts b_seconds b_stack b_pathsOf b_lengthOf b_choicesOf b_todo b_cache b_path b_tops b_missed b_struck b_worstPath b_mostMissed b_mostStruck b_leastMissed b_held b_contents b_ages b_phase b_node b_sum b_saved b_greatest b_met b_unsure) (h_sets, h_places, h_made, h_depth, nI (root + 1), nI 0, 0, 0, h_kept, h_worst, h_best, h_worstRuns, h_worstChoices, h_ends, h_bound, h_under, h_back, b_sorts, b_lows, b_highs, b_firsts, b_seconds, b_stack, b_pathsOf, b_lengthOf, b_choicesOf, b_todo, sw_f (fun _ => -1) b_cache 16, b_path, b_tops, sw_f (fun _ => 0) b_missed 18, sw_f (fun _ => 0) b_struck 18, b_worstPath, b_mostMissed, b_mostStruck, b_leastMissed, b_held, b_contents, b_ages, b_phase, b_node, b_sum, b_saved, b_greatest, b_met, b_unsure) (nI (root + 1) - 1) 1 := by
    rw [nI_pred]
    exact yp_push (o := 0) (k := 1) (h_open := 0) (by omega) ⟨F, H⟩
  have L := yk_17 (b_cache := b_cache) P 16 0 (by omega)
  rw [sw_0] at L
  exact Exists.intro 17 L
theorem on_run {g : Nat → Nat → Nat} {root w s kept R : Nat} {f_setBits : Int32} {f_placeCount : Int32} {f_made : Int32} {f_height : Int32} {f_pathCount : Int32} {f_greatestLength : Int32} {f_worstTime : Int32} {f_bestTime : Int32} {f_worstCount : Int32} {f_programBound : Int32} {f_endingCount : Int32} {f_chosen : Int32} {f_time : Int32} {a_kind : Nat → Int32} {a_first : Nat → Int32} {a_second : Nat → Int32} {a_low : Nat → Int32} {a_high : Nat → Int32} {a_parent : Nat → Int32} {a_pathsOf : Nat → Int32} {a_lengthOf : Nat → Int32} {a_choicesOf : Nat → Int32} {a_stack : Nat → Int32} {a_worstPath : Nat → Int32} {a_sureness : Nat → Int32} {a_mostMisses : Nat → Int32} {a_mostHits : Nat → Int32} {a_leastMisses : Nat → Int32} {a_endings : Nat → Int64} {a_runsHolding : Nat → Int32} {a_rounds : Nat → Int32} {a_path : Nat → Int32} {a_pathTop : Nat → Int32} {a_cache : Nat → Int32} {a_runMisses : Nat → Int32} {a_runHits : Nat → Int32} {a_table : Nat → Int32} {a_before : Nat → Int32} {a_behind : Nat → Int32} {h_sets : Int32} {h_places : Int32} {h_made : Int32} {h_depth : Int32} {h_size : Int32} {h_open : Int32} {h_time : Int32} {h_chosen : Int32} {h_kept : Int32} {h_worst : Int32} {h_best : Int32} {h_worstRuns : Int32} {h_worstChoices : Int32} {h_ends : Int32} {h_bound : Int32} {h_under : Int32} {h_back : Int32} {b_sorts : Nat → Int32} {b_lows : Nat → Int32} {b_highs : Nat → Int32} {b_firsts : Nat → Int32} {b_seconds : Nat → Int32} {b_stack : Nat → Int32} {b_pathsOf : Nat → Int32} {b_lengthOf : Nat → Int32} {b_choicesOf : Nat → Int32} {b_todo : Nat → Int32} {b_cache : Nat → Int32} {b_path : Nat → Int32} {b_tops : Nat → Int32} {b_missed : Nat → Int32} {b_struck : Nat → Int32} {b_worstPath : Nat → Int32} {b_mostMissed : Nat → Int32} {b_mostStruck : Nat → Int32} {b_leastMissed : Nat → Int32} {b_held : Nat → Int32} {b_contents : Nat → Int64} {b_ages : Nat → Int32} {b_phase : Nat → Int32} {b_node : Nat → Int32} {b_sum : Nat → Int32} {b_saved : Nat → Int32} {b_greatest : Nat → Int32} {b_met : Nat → Int32} {b_unsure : Nat → Int32}
    (T : pg_t g (root + 1)) (hr : root < 18) (hw0 : 0 < w) (hw : w ≤ 4) (hs0 : 0 < s) (hs : s ≤ 4) (hb : ∀ x y, x < 12 → y < 12 → ((nI x &&& f_setBits) = (nI y &&& f_setBits) ↔ x % s = y % s))
    (hpc : f_placeCount = nI w) (hsets : h_sets = nI s) (hpl : h_places = nI w) (hkk : h_kept = nI kept) (hk20 : kept ≤ 20) (hsz : h_size = nI (root + 1)) (hL : g 6 root ≤ 120) (hC : g 7 root ≤ 20)
    (XT : ∀ n, n ≤ root → xt_n g a_kind a_first a_second a_low a_high a_parent n) (YT : ∀ n, n ≤ root → yt_n g 0 b_sorts b_lows b_highs b_firsts b_seconds n) (Pr : lm_pre g a_path root kept R)
    (hp : ∀ k, k < 20 → (k < kept → b_path k = a_path k) ∧ (¬ k < kept → a_path k = -4)) :
    ∃ (i t c tt : Nat) (rd pa pt ca mi hi ypa yto yca ymi yst todo : Nat → Int32), rn_I g root w s kept a_path i t c [] pa pt ca mi hi ypa yto yca ymi yst ∧ tt ≤ 200000 ∧
    (∀ post : SX → Prop, post (f_setBits, f_placeCount, f_made, f_height, f_pathCount, f_greatestLength, f_worstTime, f_bestTime, f_worstCount, f_programBound, f_endingCount, nI t, nI tt, a_kind, a_first, a_second, a_low, a_high, a_parent, a_pathsOf, a_lengthOf, a_choicesOf, a_stack, a_worstPath, a_sureness, a_mostMisses, a_mostHits, a_leastMisses, a_endings, a_runsHolding, rd, pa, pt, ca, mi, hi, a_table, a_before, a_behind) → wpX_doRun post (f_setBits, f_placeCount, f_made, f_height, f_pathCount, f_greatestLength, f_worstTime, f_bestTime, f_worstCount, f_programBound, f_endingCount, f_chosen, f_time, a_kind, a_first, a_second, a_low, a_high, a_parent, a_pathsOf, a_lengthOf, a_choicesOf, a_stack, a_worstPath, a_sureness, a_mostMisses, a_mostHits, a_leastMisses, a_endings, a_runsHolding, a_rounds, a_path, a_pathTop, a_cache, a_runMisses, a_runHits, a_table, a_before, a_behind) (nI root)) ∧
    (∀ post : SY → Prop, post (h_sets, h_places, h_made, h_depth, h_size, 0, nI tt, nI t, h_kept, h_worst, h_best, h_worstRuns, h_worstChoices, h_ends, h_bound, h_under, h_back, b_sorts, b_lows, b_highs, b_firsts, b_seconds, b_stack, b_pathsOf, b_lengthOf, b_choicesOf, todo, yca, ypa, yto, ymi, yst, b_worstPath, b_mostMissed, b_mostStruck, b_leastMissed, b_held, b_contents, b_ages, b_phase, b_node, b_sum, b_saved, b_greatest, b_met, b_unsure) → wpY_run post (h_sets, h_places, h_made, h_depth, h_size, h_open, h_time, h_chosen, h_kept, h_worst, h_best, h_worstRuns, h_worstChoices, h_ends, h_bound, h_under, h_back, b_sorts, b_lows, b_highs, b_firsts, b_seconds, b_stack, b_pathsOf, b_lengthOf, b_choicesOf, b_todo, b_cache, b_path, b_tops, b_missed, b_struck, b_worstPath, b_mostMissed, b_mostStruck, b_leastMissed, b_held, b_contents, b_ages, b_phase, b_node, b_sum, b_saved, b_greatest, b_met, b_unsure)) := by
  have hM := pg_M18 T (by omega) (Nat.lt_succ_self root) hL
  have I : rl_I g root w s kept a_path 87120 0 (nI root) (nI 0) (nI 0) (nI 1) (nI 0) (nI 0) a_rounds a_path a_pathTop (sw_f (fun _ => f_placeCount) a_cache 12) (sw_f (fun _ => 0) a_runMisses 18) (sw_f (fun _ => 0) a_runHits 18) b_path b_tops (sw_f (fun _ => -1) b_cache 16) (sw_f (fun _ => 0) b_missed 18) (sw_f (fun _ => 0) b_struck 18) (pu_f b_todo 0 (nI root) 1) := by
    refine ⟨0, 0, 0, 0, 0, root, [root], [], ⟨rfl, fun a ha => by omega, fun a ha => by omega, ?_, fun k hk => rfl, fun k hk => ?_, cr_0 (fun m hm => ?_) (fun i hi => ?_) hs0 hs hw, fun n hn => ?_, hk20⟩, ⟨rfl, rfl⟩, td_push (K := []) trivial rfl rfl, rfl, rfl, rfl, rfl, rfl, ?_, by omega, Or.inl ⟨rfl, rfl, ?_⟩⟩
    · dsimp only [lm_k]; omega
    · exact ⟨fun z => (hp k hk).1 (by omega), fun z => (hp k hk).2 (by omega)⟩
    · rw [sw_lt hm, hpc]
    · rw [sw_lt hi]
    · rw [sw_lt hn, sw_lt hn, sw_lt hn, sw_lt hn]; exact ⟨rfl, rfl⟩
    · dsimp only [lm_m]; omega
    · dsimp only [lm_m]; omega
  have G : rl_G g root w s kept a_path f_setBits f_placeCount f_made f_height f_pathCount f_greatestLength f_worstTime f_bestTime f_worstCount f_programBound f_endingCount (nI 0) (nI 0) a_kind a_first a_second a_low a_high a_parent a_pathsOf a_lengthOf a_choicesOf a_stack a_worstPath a_sureness a_mostMisses a_mostHits a_leastMisses a_endings a_runsHolding a_rounds a_path a_pathTop (sw_f (fun _ => f_placeCount) a_cache 12) (sw_f (fun _ => 0) a_runMisses 18) (sw_f (fun _ => 0) a_runHits 18) a_table a_before a_behind h_sets h_places h_made h_depth h_size (nI 1) (nI 0) (nI 0) h_kept h_worst h_best h_worstRuns h_worstChoices h_ends h_bound h_under h_back b_sorts b_lows b_highs b_firsts b_seconds b_stack b_pathsOf b_lengthOf b_choicesOf (pu_f b_todo 0 (nI root) 1) (sw_f (fun _ => -1) b_cache 16) b_path b_tops (sw_f (fun _ => 0) b_missed 18) (sw_f (fun _ => 0) b_struck 18) b_worstPath b_mostMissed b_mostStruck b_leastMissed b_held b_contents b_ages b_phase b_node b_sum b_saved b_greatest b_met b_unsure (nI root) 0 := rl_all T hr hw0 hw hs0 hs hb hpc hsets hpl hkk XT YT Pr _ _ _ _ _ _ _ _ _ _ _ _ _ _ _ _ _ _ _ _ I
  obtain ⟨i, t, c, tt, rd, pa, pt, ca, mi, hi, ypa, yto, yca, ymi, yst, todo, F1, F2, e1, e2, e3, e4⟩ := G
  refine ⟨i, t, c, tt, rd, pa, pt, ca, mi, hi, ypa, yto, yca, ymi, yst, todo, e1, e2, fun post h => ?_, fun post h => ?_⟩
  · exact xk_clear (f_chosen := f_chosen) (f_time := f_time) ⟨F1, e3 post h⟩
  · exact yk_run hsz (e4 post h)
end
section
/-! what is noted after a run -/
def ix_x (a b : Int32) : Int32 := if a ≤ b then b else a
def ix_n (a b : Int32) : Int32 := if b ≤ a then b else a
theorem ix_m {Q : Int32 → Prop} {a b : Int32} (H : Q (ix_x a b)) : (a ≤ b → Q b) ∧ (¬ a ≤ b → Q a) := by
  unfold ix_x at H
  exact ⟨fun h => by rw [if_pos h] at H; exact H, fun h => by rw [if_neg h] at H; exact H⟩
theorem ix_l {Q : Int32 → Prop} {a b : Int32} (H : Q (ix_n a b)) : (b ≤ a → Q b) ∧ (¬ b ≤ a → Q a) := by
  unfold ix_n at H
  exact ⟨fun h => by rw [if_pos h] at H; exact H, fun h => by rw [if_neg h] at H; exact H⟩
theorem ix_G {Q : Int32 → Prop} {a b : Int32} (H : Q (ix_x a b)) : wpX_greater Q a b := ix_m H
theorem ix_L {Q : Int32 → Prop} {a b : Int32} (H : Q (ix_n a b)) : wpX_lesser Q a b := ix_l H
theorem iy_M {h_sets : Int32} {h_places : Int32} {h_made : Int32} {h_depth : Int32} {h_size : Int32} {h_open : Int32} {h_time : Int32} {h_chosen : Int32} {h_kept : Int32} {h_worst : Int32} {h_best : Int32} {h_worstRuns : Int32} {h_worstChoices : Int32} {h_ends : Int32} {h_bound : Int32} {h_under : Int32} {h_back : Int32} {b_sorts : Nat → Int32} {b_lows : Nat → Int32} {b_highs : Nat → Int32} {b_firsts : Nat → Int32} {b_seconds : Nat → Int32} {b_stack : Nat → Int32} {b_pathsOf : Nat → Int32} {b_lengthOf : Nat → Int32} {b_choicesOf : Nat → Int32} {b_todo : Nat → Int32} {b_cache : Nat → Int32} {b_path : Nat → Int32} {b_tops : Nat → Int32} {b_missed : Nat → Int32} {b_struck : Nat → Int32} {b_worstPath : Nat → Int32} {b_mostMissed : Nat → Int32} {b_mostStruck : Nat → Int32} {b_leastMissed : Nat → Int32} {b_held : Nat → Int32} {b_contents : Nat → Int64} {b_ages : Nat → Int32} {b_phase : Nat → Int32} {b_node : Nat → Int32} {b_sum : Nat → Int32} {b_saved : Nat → Int32} {b_greatest : Nat → Int32} {b_met : Nat → Int32} {b_unsure : Nat → Int32} {Q : Int32 → Prop} {a b : Int32} (H : Q (ix_x a b)) : wpY_most Q (h_sets, h_places, h_made, h_depth, h_size, h_open, h_time, h_chosen, h_kept, h_worst, h_best, h_worstRuns, h_worstChoices, h_ends, h_bound, h_under, h_back, b_sorts, b_lows, b_highs, b_firsts, b_seconds, b_stack, b_pathsOf, b_lengthOf, b_choicesOf, b_todo, b_cache, b_path, b_tops, b_missed, b_struck, b_worstPath, b_mostMissed, b_mostStruck, b_leastMissed, b_held, b_contents, b_ages, b_phase, b_node, b_sum, b_saved, b_greatest, b_met, b_unsure) a b := ix_m H
theorem iy_L {h_sets : Int32} {h_places : Int32} {h_made : Int32} {h_depth : Int32} {h_size : Int32} {h_open : Int32} {h_time : Int32} {h_chosen : Int32} {h_kept : Int32} {h_worst : Int32} {h_best : Int32} {h_worstRuns : Int32} {h_worstChoices : Int32} {h_ends : Int32} {h_bound : Int32} {h_under : Int32} {h_back : Int32} {b_sorts : Nat → Int32} {b_lows : Nat → Int32} {b_highs : Nat → Int32} {b_firsts : Nat → Int32} {b_seconds : Nat → Int32} {b_stack : Nat → Int32} {b_pathsOf : Nat → Int32} {b_lengthOf : Nat → Int32} {b_choicesOf : Nat → Int32} {b_todo : Nat → Int32} {b_cache : Nat → Int32} {b_path : Nat → Int32} {b_tops : Nat → Int32} {b_missed : Nat → Int32} {b_struck : Nat → Int32} {b_worstPath : Nat → Int32} {b_mostMissed : Nat → Int32} {b_mostStruck : Nat → Int32} {b_leastMissed : Nat → Int32} {b_held : Nat → Int32} {b_contents : Nat → Int64} {b_ages : Nat → Int32} {b_phase : Nat → Int32} {b_node : Nat → Int32} {b_sum : Nat → Int32} {b_saved : Nat → Int32} {b_greatest : Nat → Int32} {b_met : Nat → Int32} {b_unsure : Nat → Int32} {Q : Int32 → Prop} {a b : Int32} (H : Q (ix_n a b)) : wpY_least Q (h_sets, h_places, h_made, h_depth, h_size, h_open, h_time, h_chosen, h_kept, h_worst, h_best, h_worstRuns, h_worstChoices, h_ends, h_bound, h_under, h_back, b_sorts, b_lows, b_highs, b_firsts, b_seconds, b_stack, b_pathsOf, b_lengthOf, b_choicesOf, b_todo, b_cache, b_path, b_tops, b_missed, b_struck, b_worstPath, b_mostMissed, b_mostStruck, b_leastMissed, b_held, b_contents, b_ages, b_phase, b_node, b_sum, b_saved, b_greatest, b_met, b_unsure) a b := ix_l H
theorem ix_c (a b : Int32) : ix_n a b = ix_n b a := by
  unfold ix_n
  by_cases h : b ≤ a
  · rw [if_pos h]
    by_cases k : a ≤ b
    · rw [if_pos k]; exact Int32.le_antisymm h k
    · rw [if_neg k]
  · rw [if_neg h]
    by_cases k : a ≤ b
    · rw [if_pos k]
    · exfalso; exact k (Int32.le_of_lt (Int32.not_le.mp h))
theorem xn_41 {f_setBits : Int32} {f_placeCount : Int32} {f_made : Int32} {f_height : Int32} {f_pathCount : Int32} {f_greatestLength : Int32} {f_worstTime : Int32} {f_bestTime : Int32} {f_worstCount : Int32} {f_programBound : Int32} {f_endingCount : Int32} {f_chosen : Int32} {f_time : Int32} {a_kind : Nat → Int32} {a_first : Nat → Int32} {a_second : Nat → Int32} {a_low : Nat → Int32} {a_high : Nat → Int32} {a_parent : Nat → Int32} {a_pathsOf : Nat → Int32} {a_lengthOf : Nat → Int32} {a_choicesOf : Nat → Int32} {a_stack : Nat → Int32} {a_worstPath : Nat → Int32} {a_sureness : Nat → Int32} {a_mostMisses : Nat → Int32} {a_mostHits : Nat → Int32} {a_leastMisses : Nat → Int32} {a_endings : Nat → Int64} {a_runsHolding : Nat → Int32} {a_rounds : Nat → Int32} {a_path : Nat → Int32} {a_pathTop : Nat → Int32} {a_cache : Nat → Int32} {a_runMisses : Nat → Int32} {a_runHits : Nat → Int32} {a_table : Nat → Int32} {a_before : Nat → Int32} {a_behind : Nat → Int32} {post : SX → Prop} (H : wX_noteTime_65 post f_setBits f_placeCount f_made f_height f_pathCount f_greatestLength f_worstTime f_bestTime f_worstCount f_programBound f_endingCount f_chosen f_time a_kind a_first a_second a_low a_high a_parent a_pathsOf a_lengthOf a_choicesOf a_stack (sw_f a_path a_worstPath 20) a_sureness a_mostMisses a_mostHits a_leastMisses a_endings a_runsHolding a_rounds a_path a_pathTop a_cache a_runMisses a_runHits a_table a_before a_behind) :
    ∀ d i, i + d = 20 → wX_noteTime_41 post f_setBits f_placeCount f_made f_height f_pathCount f_greatestLength f_worstTime f_bestTime f_worstCount f_programBound f_endingCount f_chosen f_time (d + 1) (nI i) a_kind a_first a_second a_low a_high a_parent a_pathsOf a_lengthOf a_choicesOf a_stack (sw_f a_path a_worstPath i) a_sureness a_mostMisses a_mostHits a_leastMisses a_endings a_runsHolding a_rounds a_path a_pathTop a_cache a_runMisses a_runHits a_table a_before a_behind := by
  intro d
  induction d with
  | zero =>
    intro i hi
    have hi : i = 20 := by omega
    subst hi
    exact br_t (by decide) H
  | succ d ih =>
    intro i hi
    have c : (nI i).toNatClampNeg = i := nI_clamp (by omega)
    have ii : vp_in (nI i) 20 := vp_in_nI (by omega) (by omega)
    refine br_f (nI_ge (b := 20) (by omega) (by omega)) ⟨ii, ii, ?_⟩
    rw [c, sw_u rfl]
    exact nm_e (nm_r (nI_1 i) (ih (i + 1) (by omega)))
theorem xn_time {f_setBits : Int32} {f_placeCount : Int32} {f_made : Int32} {f_height : Int32} {f_pathCount : Int32} {f_greatestLength : Int32} {f_worstTime : Int32} {f_bestTime : Int32} {f_worstCount : Int32} {f_programBound : Int32} {f_endingCount : Int32} {f_chosen : Int32} {f_time : Int32} {a_kind : Nat → Int32} {a_first : Nat → Int32} {a_second : Nat → Int32} {a_low : Nat → Int32} {a_high : Nat → Int32} {a_parent : Nat → Int32} {a_pathsOf : Nat → Int32} {a_lengthOf : Nat → Int32} {a_choicesOf : Nat → Int32} {a_stack : Nat → Int32} {a_worstPath : Nat → Int32} {a_sureness : Nat → Int32} {a_mostMisses : Nat → Int32} {a_mostHits : Nat → Int32} {a_leastMisses : Nat → Int32} {a_endings : Nat → Int64} {a_runsHolding : Nat → Int32} {a_rounds : Nat → Int32} {a_path : Nat → Int32} {a_pathTop : Nat → Int32} {a_cache : Nat → Int32} {a_runMisses : Nat → Int32} {a_runHits : Nat → Int32} {a_table : Nat → Int32} {a_before : Nat → Int32} {a_behind : Nat → Int32} {post : SX → Prop}
    (H1 : ¬ f_time ≤ f_worstTime → post (f_setBits, f_placeCount, f_made, f_height, f_pathCount, f_greatestLength, f_time, ix_n f_time f_bestTime, 0 + 1, f_programBound, f_endingCount, f_chosen, f_time, a_kind, a_first, a_second, a_low, a_high, a_parent, a_pathsOf, a_lengthOf, a_choicesOf, a_stack, sw_f a_path a_worstPath 20, a_sureness, a_mostMisses, a_mostHits, a_leastMisses, a_endings, a_runsHolding, a_rounds, a_path, a_pathTop, a_cache, a_runMisses, a_runHits, a_table, a_before, a_behind))
    (H2 : f_time = f_worstTime → post (f_setBits, f_placeCount, f_made, f_height, f_pathCount, f_greatestLength, f_worstTime, ix_n f_time f_bestTime, f_worstCount + 1, f_programBound, f_endingCount, f_chosen, f_time, a_kind, a_first, a_second, a_low, a_high, a_parent, a_pathsOf, a_lengthOf, a_choicesOf, a_stack, a_worstPath, a_sureness, a_mostMisses, a_mostHits, a_leastMisses, a_endings, a_runsHolding, a_rounds, a_path, a_pathTop, a_cache, a_runMisses, a_runHits, a_table, a_before, a_behind))
    (H3 : f_time ≤ f_worstTime → ¬ f_time = f_worstTime → post (f_setBits, f_placeCount, f_made, f_height, f_pathCount, f_greatestLength, f_worstTime, ix_n f_time f_bestTime, f_worstCount, f_programBound, f_endingCount, f_chosen, f_time, a_kind, a_first, a_second, a_low, a_high, a_parent, a_pathsOf, a_lengthOf, a_choicesOf, a_stack, a_worstPath, a_sureness, a_mostMisses, a_mostHits, a_leastMisses, a_endings, a_runsHolding, a_rounds, a_path, a_pathTop, a_cache, a_runMisses, a_runHits, a_table, a_before, a_behind)) : wpX_noteTime post (f_setBits, f_placeCount, f_made, f_height, f_pathCount, f_greatestLength, f_worstTime, f_bestTime, f_worstCount, f_programBound, f_endingCount, f_chosen, f_time, a_kind, a_first, a_second, a_low, a_high, a_parent, a_pathsOf, a_lengthOf, a_choicesOf, a_stack, a_worstPath, a_sureness, a_mostMisses, a_mostHits, a_leastMisses, a_endings, a_runsHolding, a_rounds, a_path, a_pathTop, a_cache, a_runMisses, a_runHits, a_table, a_before, a_behind) := by
  refine ix_l (Q := fun r_1 => ((f_time ≤ f_worstTime → (wX_noteTime_65 post f_setBits f_placeCount f_made f_height f_pathCount f_greatestLength f_worstTime r_1 f_worstCount f_programBound f_endingCount f_chosen f_time a_kind a_first a_second a_low a_high a_parent a_pathsOf a_lengthOf a_choicesOf a_stack a_worstPath a_sureness a_mostMisses a_mostHits a_leastMisses a_endings a_runsHolding a_rounds a_path a_pathTop a_cache a_runMisses a_runHits a_table a_before a_behind)) ∧ (¬ f_time ≤ f_worstTime → (∃ n41 : Nat, wX_noteTime_41 post f_setBits f_placeCount f_made f_height f_pathCount f_greatestLength f_time r_1 0 f_programBound f_endingCount f_chosen f_time n41 0 a_kind a_first a_second a_low a_high a_parent a_pathsOf a_lengthOf a_choicesOf a_stack a_worstPath a_sureness a_mostMisses a_mostHits a_leastMisses a_endings a_runsHolding a_rounds a_path a_pathTop a_cache a_runMisses a_runHits a_table a_before a_behind)))) ?_
  refine br_c (fun h => br_c (fun e => nm_e (H2 e)) (fun e => H3 h e)) (fun h => ?_)
  have L := xn_41 (a_worstPath := a_worstPath) (a_path := a_path) (f_worstTime := f_time) (f_worstCount := 0) (br_t rfl (nm_e (H1 h))) 20 0 (by omega)
  rw [sw_0] at L
  exact ⟨21, L⟩
theorem yn_34 {h_sets : Int32} {h_places : Int32} {h_made : Int32} {h_depth : Int32} {h_size : Int32} {h_open : Int32} {h_time : Int32} {h_chosen : Int32} {h_kept : Int32} {h_worst : Int32} {h_best : Int32} {h_worstRuns : Int32} {h_worstChoices : Int32} {h_ends : Int32} {h_bound : Int32} {h_under : Int32} {h_back : Int32} {b_sorts : Nat → Int32} {b_lows : Nat → Int32} {b_highs : Nat → Int32} {b_firsts : Nat → Int32} {b_seconds : Nat → Int32} {b_stack : Nat → Int32} {b_pathsOf : Nat → Int32} {b_lengthOf : Nat → Int32} {b_choicesOf : Nat → Int32} {b_todo : Nat → Int32} {b_cache : Nat → Int32} {b_path : Nat → Int32} {b_tops : Nat → Int32} {b_missed : Nat → Int32} {b_struck : Nat → Int32} {b_worstPath : Nat → Int32} {b_mostMissed : Nat → Int32} {b_mostStruck : Nat → Int32} {b_leastMissed : Nat → Int32} {b_held : Nat → Int32} {b_contents : Nat → Int64} {b_ages : Nat → Int32} {b_phase : Nat → Int32} {b_node : Nat → Int32} {b_sum : Nat → Int32} {b_saved : Nat → Int32} {b_greatest : Nat → Int32} {b_met : Nat → Int32} {b_unsure : Nat → Int32} {post : SY → Prop} {t : Nat} (ht : t ≤ 20) (hc : h_chosen = nI t) (H : wY_note_60 post h_sets h_places h_made h_depth h_size h_open h_time h_chosen h_kept h_worst h_best h_worstRuns h_worstChoices h_ends h_bound h_under h_back b_sorts b_lows b_highs b_firsts b_seconds b_stack b_pathsOf b_lengthOf b_choicesOf b_todo b_cache b_path b_tops b_missed b_struck (sw_f b_path b_worstPath t) b_mostMissed b_mostStruck b_leastMissed b_held b_contents b_ages b_phase b_node b_sum b_saved b_greatest b_met b_unsure) :
    ∀ d i, i + d = t → wY_note_34 post h_sets h_places h_made h_depth h_size h_open h_time h_chosen h_kept h_worst h_best h_worstRuns h_worstChoices h_ends h_bound h_under h_back (d + 1) (nI i) b_sorts b_lows b_highs b_firsts b_seconds b_stack b_pathsOf b_lengthOf b_choicesOf b_todo b_cache b_path b_tops b_missed b_struck (sw_f b_path b_worstPath i) b_mostMissed b_mostStruck b_leastMissed b_held b_contents b_ages b_phase b_node b_sum b_saved b_greatest b_met b_unsure := by
  subst hc
  intro d
  induction d with
  | zero =>
    intro i hi
    have hi : i = t := by omega
    subst hi
    exact br_t (nI_le (Nat.le_refl _) (by omega)) H
  | succ d ih =>
    intro i hi
    have c : (nI i).toNatClampNeg = i := nI_clamp (by omega)
    have ii : vp_in (nI i) 24 := vp_in_nI (by omega) (by omega)
    refine br_f (nI_ge (by omega) (by omega)) ⟨ii, ii, ?_⟩
    rw [c, sw_u rfl]
    exact nm_e (nm_r (nI_1 i) (ih (i + 1) (by omega)))
theorem yn_note {h_sets : Int32} {h_places : Int32} {h_made : Int32} {h_depth : Int32} {h_size : Int32} {h_open : Int32} {h_time : Int32} {h_chosen : Int32} {h_kept : Int32} {h_worst : Int32} {h_best : Int32} {h_worstRuns : Int32} {h_worstChoices : Int32} {h_ends : Int32} {h_bound : Int32} {h_under : Int32} {h_back : Int32} {b_sorts : Nat → Int32} {b_lows : Nat → Int32} {b_highs : Nat → Int32} {b_firsts : Nat → Int32} {b_seconds : Nat → Int32} {b_stack : Nat → Int32} {b_pathsOf : Nat → Int32} {b_lengthOf : Nat → Int32} {b_choicesOf : Nat → Int32} {b_todo : Nat → Int32} {b_cache : Nat → Int32} {b_path : Nat → Int32} {b_tops : Nat → Int32} {b_missed : Nat → Int32} {b_struck : Nat → Int32} {b_worstPath : Nat → Int32} {b_mostMissed : Nat → Int32} {b_mostStruck : Nat → Int32} {b_leastMissed : Nat → Int32} {b_held : Nat → Int32} {b_contents : Nat → Int64} {b_ages : Nat → Int32} {b_phase : Nat → Int32} {b_node : Nat → Int32} {b_sum : Nat → Int32} {b_saved : Nat → Int32} {b_greatest : Nat → Int32} {b_met : Nat → Int32} {b_unsure : Nat → Int32} {post : SY → Prop} {t : Nat} (ht : t ≤ 20) (hc : h_chosen = nI t)
    (H1 : ¬ h_time ≤ h_worst → wY_note_81 post h_sets h_places h_made h_depth h_size h_open h_time h_chosen h_kept h_time h_best (0 + 1) h_chosen h_ends h_bound h_under h_back b_sorts b_lows b_highs b_firsts b_seconds b_stack b_pathsOf b_lengthOf b_choicesOf b_todo b_cache b_path b_tops b_missed b_struck (sw_f b_path b_worstPath t) b_mostMissed b_mostStruck b_leastMissed b_held b_contents b_ages b_phase b_node b_sum b_saved b_greatest b_met b_unsure)
    (H2 : h_time = h_worst → wY_note_81 post h_sets h_places h_made h_depth h_size h_open h_time h_chosen h_kept h_worst h_best (h_worstRuns + 1) h_worstChoices h_ends h_bound h_under h_back b_sorts b_lows b_highs b_firsts b_seconds b_stack b_pathsOf b_lengthOf b_choicesOf b_todo b_cache b_path b_tops b_missed b_struck b_worstPath b_mostMissed b_mostStruck b_leastMissed b_held b_contents b_ages b_phase b_node b_sum b_saved b_greatest b_met b_unsure)
    (H3 : h_time ≤ h_worst → ¬ h_time = h_worst → wY_note_81 post h_sets h_places h_made h_depth h_size h_open h_time h_chosen h_kept h_worst h_best h_worstRuns h_worstChoices h_ends h_bound h_under h_back b_sorts b_lows b_highs b_firsts b_seconds b_stack b_pathsOf b_lengthOf b_choicesOf b_todo b_cache b_path b_tops b_missed b_struck b_worstPath b_mostMissed b_mostStruck b_leastMissed b_held b_contents b_ages b_phase b_node b_sum b_saved b_greatest b_met b_unsure) : wpY_note post (h_sets, h_places, h_made, h_depth, h_size, h_open, h_time, h_chosen, h_kept, h_worst, h_best, h_worstRuns, h_worstChoices, h_ends, h_bound, h_under, h_back, b_sorts, b_lows, b_highs, b_firsts, b_seconds, b_stack, b_pathsOf, b_lengthOf, b_choicesOf, b_todo, b_cache, b_path, b_tops, b_missed, b_struck, b_worstPath, b_mostMissed, b_mostStruck, b_leastMissed, b_held, b_contents, b_ages, b_phase, b_node, b_sum, b_saved, b_greatest, b_met, b_unsure) := by
  refine br_c (fun h => br_c (fun e => nm_e (H2 e)) (fun e => H3 h e)) (fun h => ?_)
  have L := yn_34 (b_worstPath := b_worstPath) (b_path := b_path) (h_worst := h_time) (h_worstRuns := 0) (h_worstChoices := h_chosen) ht hc (br_t rfl (nm_e (H1 h))) t 0 (by omega)
  rw [sw_0] at L
  exact ⟨t + 1, L⟩
/-- the arrays of accesses -/
theorem xn_acc {f_setBits : Int32} {f_placeCount : Int32} {f_made : Int32} {f_height : Int32} {f_pathCount : Int32} {f_greatestLength : Int32} {f_worstTime : Int32} {f_bestTime : Int32} {f_worstCount : Int32} {f_programBound : Int32} {f_endingCount : Int32} {f_chosen : Int32} {f_time : Int32} {a_kind : Nat → Int32} {a_first : Nat → Int32} {a_second : Nat → Int32} {a_low : Nat → Int32} {a_high : Nat → Int32} {a_parent : Nat → Int32} {a_pathsOf : Nat → Int32} {a_lengthOf : Nat → Int32} {a_choicesOf : Nat → Int32} {a_stack : Nat → Int32} {a_worstPath : Nat → Int32} {a_sureness : Nat → Int32} {a_mostMisses : Nat → Int32} {a_mostHits : Nat → Int32} {a_leastMisses : Nat → Int32} {a_endings : Nat → Int64} {a_runsHolding : Nat → Int32} {a_rounds : Nat → Int32} {a_path : Nat → Int32} {a_pathTop : Nat → Int32} {a_cache : Nat → Int32} {a_runMisses : Nat → Int32} {a_runHits : Nat → Int32} {a_table : Nat → Int32} {a_before : Nat → Int32} {a_behind : Nat → Int32} {post : SX → Prop} {ma : Nat} (hma : ma ≤ 18) (hm : f_made = nI ma)
    (H : post (f_setBits, f_placeCount, f_made, f_height, f_pathCount, f_greatestLength, f_worstTime, f_bestTime, f_worstCount, f_programBound, f_endingCount, f_chosen, f_time, a_kind, a_first, a_second, a_low, a_high, a_parent, a_pathsOf, a_lengthOf, a_choicesOf, a_stack, a_worstPath, a_sureness, sw_f (fun j => if a_kind j = 0 then ix_x (a_mostMisses j) (a_runMisses j) else a_mostMisses j) a_mostMisses ma, sw_f (fun j => if a_kind j = 0 then ix_x (a_mostHits j) (a_runHits j) else a_mostHits j) a_mostHits ma, sw_f (fun j => if a_kind j = 0 then ix_n (a_leastMisses j) (a_runMisses j) else a_leastMisses j) a_leastMisses ma, a_endings, a_runsHolding, a_rounds, a_path, a_pathTop, a_cache, a_runMisses, a_runHits, a_table, a_before, a_behind)) :
    ∀ d i, i + d = ma → wX_noteAccesses_2 post f_setBits f_placeCount f_made f_height f_pathCount f_greatestLength f_worstTime f_bestTime f_worstCount f_programBound f_endingCount f_chosen f_time (d + 1) (nI i) a_kind a_first a_second a_low a_high a_parent a_pathsOf a_lengthOf a_choicesOf a_stack a_worstPath a_sureness (sw_f (fun j => if a_kind j = 0 then ix_x (a_mostMisses j) (a_runMisses j) else a_mostMisses j) a_mostMisses i) (sw_f (fun j => if a_kind j = 0 then ix_x (a_mostHits j) (a_runHits j) else a_mostHits j) a_mostHits i) (sw_f (fun j => if a_kind j = 0 then ix_n (a_leastMisses j) (a_runMisses j) else a_leastMisses j) a_leastMisses i) a_endings a_runsHolding a_rounds a_path a_pathTop a_cache a_runMisses a_runHits a_table a_before a_behind := by
  subst hm
  intro d
  induction d with
  | zero =>
    intro i hi
    have hi : i = ma := by omega
    subst hi
    exact br_t (nI_le (Nat.le_refl _) (by omega)) H
  | succ d ih =>
    intro i hi
    have c : (nI i).toNatClampNeg = i := nI_clamp (by omega)
    have ii : vp_in (nI i) 18 := vp_in_nI (by omega) (by omega)
    refine br_f (nI_ge (by omega) (by omega)) ⟨ii, ?_⟩
    rw [c, sw_at, sw_at, sw_at]
    refine br_c (fun z => ⟨ii, ii, ?_⟩) (fun z => nm_r (nI_1 i) ?_)
    · refine ix_G ⟨ii, ?_⟩
      rw [sw_u (by rw [if_pos z])]
      refine nm_e ⟨ii, ii, ix_G ⟨ii, ?_⟩⟩
      rw [sw_u (by rw [if_pos z])]
      refine nm_e ⟨ii, ii, ix_L ⟨ii, ?_⟩⟩
      rw [sw_u (by rw [if_pos z])]
      exact nm_e (nm_r (nI_1 i) (ih (i + 1) (by omega)))
    · rw [sw_k (i := i) (by rw [if_neg z]), sw_k (i := i) (by rw [if_neg z]), sw_k (i := i) (by rw [if_neg z])]
      exact ih (i + 1) (by omega)
theorem yn_acc {h_sets : Int32} {h_places : Int32} {h_made : Int32} {h_depth : Int32} {h_size : Int32} {h_open : Int32} {h_time : Int32} {h_chosen : Int32} {h_kept : Int32} {h_worst : Int32} {h_best : Int32} {h_worstRuns : Int32} {h_worstChoices : Int32} {h_ends : Int32} {h_bound : Int32} {h_under : Int32} {h_back : Int32} {b_sorts : Nat → Int32} {b_lows : Nat → Int32} {b_highs : Nat → Int32} {b_firsts : Nat → Int32} {b_seconds : Nat → Int32} {b_stack : Nat → Int32} {b_pathsOf : Nat → Int32} {b_lengthOf : Nat → Int32} {b_choicesOf : Nat → Int32} {b_todo : Nat → Int32} {b_cache : Nat → Int32} {b_path : Nat → Int32} {b_tops : Nat → Int32} {b_missed : Nat → Int32} {b_struck : Nat → Int32} {b_worstPath : Nat → Int32} {b_mostMissed : Nat → Int32} {b_mostStruck : Nat → Int32} {b_leastMissed : Nat → Int32} {b_held : Nat → Int32} {b_contents : Nat → Int64} {b_ages : Nat → Int32} {b_phase : Nat → Int32} {b_node : Nat → Int32} {b_sum : Nat → Int32} {b_saved : Nat → Int32} {b_greatest : Nat → Int32} {b_met : Nat → Int32} {b_unsure : Nat → Int32} {post : SY → Prop}
    (H : ∃ n181 : Nat, wY_note_181 post h_sets h_places h_made h_depth h_size h_open h_time h_chosen h_kept h_worst h_best h_worstRuns h_worstChoices h_ends h_bound h_under h_back n181 0 0 b_sorts b_lows b_highs b_firsts b_seconds b_stack b_pathsOf b_lengthOf b_choicesOf b_todo b_cache b_path b_tops b_missed b_struck b_worstPath (sw_f (fun j => ix_x (b_mostMissed j) (b_missed j)) b_mostMissed 18) (sw_f (fun j => ix_x (b_mostStruck j) (b_struck j)) b_mostStruck 18) (sw_f (fun j => ix_n (b_leastMissed j) (b_missed j)) b_leastMissed 18) b_held b_contents b_ages b_phase b_node b_sum b_saved b_greatest b_met b_unsure) :
    ∀ d i, i + d = 18 → wY_note_99 post h_sets h_places h_made h_depth h_size h_open h_time h_chosen h_kept h_worst h_best h_worstRuns h_worstChoices h_ends h_bound h_under h_back (d + 1) (nI i) b_sorts b_lows b_highs b_firsts b_seconds b_stack b_pathsOf b_lengthOf b_choicesOf b_todo b_cache b_path b_tops b_missed b_struck b_worstPath (sw_f (fun j => ix_x (b_mostMissed j) (b_missed j)) b_mostMissed i) (sw_f (fun j => ix_x (b_mostStruck j) (b_struck j)) b_mostStruck i) (sw_f (fun j => ix_n (b_leastMissed j) (b_missed j)) b_leastMissed i) b_held b_contents b_ages b_phase b_node b_sum b_saved b_greatest b_met b_unsure := by
  intro d
  induction d with
  | zero =>
    intro i hi
    have hi : i = 18 := by omega
    subst hi
    exact br_t (by decide) H
  | succ d ih =>
    intro i hi
    have c : (nI i).toNatClampNeg = i := nI_clamp (by omega)
    have ii : vp_in (nI i) 18 := vp_in_nI (by omega) (by omega)
    refine br_f (nI_ge (b := 18) (by omega) (by omega)) ⟨ii, ii, ?_⟩
    rw [c, sw_at, sw_at, sw_at]
    refine iy_M ⟨ii, ?_⟩
    rw [sw_u rfl]
    refine nm_e ⟨ii, ii, iy_M ⟨ii, ?_⟩⟩
    rw [sw_u rfl]
    refine nm_e ⟨ii, ii, iy_L ⟨ii, ?_⟩⟩
    rw [sw_u rfl]
    exact nm_e (nm_r (nI_1 i) (ih (i + 1) (by omega)))
/-- the codes of the caches -/
theorem cx_next {v a : Nat} {x : Int32} (hx : x = nI a) (ha : a < 8) (hv : v < 2 ^ 40) : (lN v <<< ((3 : Int32).toInt64 &&& 63)) ||| x.toInt64 = lN (v * 8 + a) := by
  rw [g_shl (k := 3) (p := 8) (by decide) (by omega) (by decide) (by omega), hx, nI_l (by omega), g_or (k := 3) (by decide) ha (by omega)]
theorem cy_next {v y : Nat} {x : Int32} (hx : x = -1 ∧ y = 0 ∨ ∃ m, m < 12 ∧ x = nI m ∧ y = m + 1) : (lN v * 13) + x.toInt64 + 1 = lN (v * 13 + y) := by
  have e : x.toInt64 + 1 = lN y := by
    rcases hx with ⟨h1, h2⟩ | ⟨m, h0, h1, h2⟩
    · subst h1 h2; decide
    · subst h1 h2; rw [nI_l (by omega), lN_1]
  rw [Int64.add_assoc, e, show (13 : Int64) = lN 13 from rfl, lN_mul, lN_add]
theorem cd_12 {f : Nat → Nat} {i : Nat} (hi : i ≤ 12) (h : ∀ j, j < 12 → f j < 8) : cd_c 8 f i < 2 ^ 40 := by
  have a := cd_lt (b := 8) (f := f) i (fun j hj => h j (by omega))
  have b : 8 ^ i ≤ 8 ^ 12 := Nat.pow_le_pow_right (by omega) hi
  have c : 8 ^ 12 < 2 ^ 40 := by decide
  omega
theorem xn_4 {f_setBits : Int32} {f_placeCount : Int32} {f_made : Int32} {f_height : Int32} {f_pathCount : Int32} {f_greatestLength : Int32} {f_worstTime : Int32} {f_bestTime : Int32} {f_worstCount : Int32} {f_programBound : Int32} {f_endingCount : Int32} {f_chosen : Int32} {f_time : Int32} {a_kind : Nat → Int32} {a_first : Nat → Int32} {a_second : Nat → Int32} {a_low : Nat → Int32} {a_high : Nat → Int32} {a_parent : Nat → Int32} {a_pathsOf : Nat → Int32} {a_lengthOf : Nat → Int32} {a_choicesOf : Nat → Int32} {a_stack : Nat → Int32} {a_worstPath : Nat → Int32} {a_sureness : Nat → Int32} {a_mostMisses : Nat → Int32} {a_mostHits : Nat → Int32} {a_leastMisses : Nat → Int32} {a_endings : Nat → Int64} {a_runsHolding : Nat → Int32} {a_rounds : Nat → Int32} {a_path : Nat → Int32} {a_pathTop : Nat → Int32} {a_cache : Nat → Int32} {a_runMisses : Nat → Int32} {a_runHits : Nat → Int32} {a_table : Nat → Int32} {a_before : Nat → Int32} {a_behind : Nat → Int32} {post : SX → Prop} {w : Nat} (hw : w ≤ 4) (hpc : f_placeCount = nI w) (hc : ∀ m, m < 12 → nt_x a_cache m < 8 ∧ a_cache m = nI (nt_x a_cache m))
    (H : ∃ n56 : Nat, wX_noteEnding_56 post (lN (cd_c 8 (nt_x a_cache) 12)) f_setBits f_placeCount f_made f_height f_pathCount f_greatestLength f_worstTime f_bestTime f_worstCount f_programBound f_endingCount f_chosen f_time a_kind a_first a_second a_low a_high a_parent a_pathsOf a_lengthOf a_choicesOf a_stack a_worstPath a_sureness a_mostMisses a_mostHits a_leastMisses a_endings (sw_f (fun j => if nt_x a_cache j < w then a_runsHolding j + 1 else a_runsHolding j) a_runsHolding 12) a_rounds a_path a_pathTop a_cache a_runMisses a_runHits a_table a_before a_behind n56 0 0) :
    ∀ d i, i + d = 12 → wX_noteEnding_4 post f_setBits f_placeCount f_made f_height f_pathCount f_greatestLength f_worstTime f_bestTime f_worstCount f_programBound f_endingCount f_chosen f_time (d + 1) (lN (cd_c 8 (nt_x a_cache) i)) (nI i) a_kind a_first a_second a_low a_high a_parent a_pathsOf a_lengthOf a_choicesOf a_stack a_worstPath a_sureness a_mostMisses a_mostHits a_leastMisses a_endings (sw_f (fun j => if nt_x a_cache j < w then a_runsHolding j + 1 else a_runsHolding j) a_runsHolding i) a_rounds a_path a_pathTop a_cache a_runMisses a_runHits a_table a_before a_behind := by
  subst hpc
  intro d
  induction d with
  | zero =>
    intro i hi
    have hi : i = 12 := by omega
    subst hi
    exact br_t (by decide) H
  | succ d ih =>
    intro i hi
    have c : (nI i).toNatClampNeg = i := nI_clamp (by omega)
    have ii : vp_in (nI i) 12 := vp_in_nI (by omega) (by omega)
    obtain ⟨c1, c2⟩ := hc i (by omega)
    have e : (lN (cd_c 8 (nt_x a_cache) i) <<< ((3 : Int32).toInt64 &&& 63)) ||| (a_cache i).toInt64 = lN (cd_c 8 (nt_x a_cache) (i + 1)) := cx_next c2 c1 (cd_12 (by omega) (fun j hj => (hc j hj).1))
    refine br_f (nI_ge (b := 12) (by omega) (by omega)) ⟨ii, ?_⟩
    rw [c, e]
    refine nm_e ⟨ii, ?_⟩
    rw [sw_at]
    by_cases z : nt_x a_cache i < w
    · refine br_f (by rw [c2]; exact nI_ge z (by omega)) ⟨ii, ii, ?_⟩
      rw [sw_u (by rw [if_pos z])]
      exact nm_e (nm_r (nI_1 i) (ih (i + 1) (by omega)))
    · refine br_t (by rw [c2]; exact nI_le (by omega) (by omega)) (nm_r (nI_1 i) ?_)
      rw [sw_k (i := i) (by rw [if_neg z])]
      exact ih (i + 1) (by omega)
theorem yn_181 {h_sets : Int32} {h_places : Int32} {h_made : Int32} {h_depth : Int32} {h_size : Int32} {h_open : Int32} {h_time : Int32} {h_chosen : Int32} {h_kept : Int32} {h_worst : Int32} {h_best : Int32} {h_worstRuns : Int32} {h_worstChoices : Int32} {h_ends : Int32} {h_bound : Int32} {h_under : Int32} {h_back : Int32} {b_sorts : Nat → Int32} {b_lows : Nat → Int32} {b_highs : Nat → Int32} {b_firsts : Nat → Int32} {b_seconds : Nat → Int32} {b_stack : Nat → Int32} {b_pathsOf : Nat → Int32} {b_lengthOf : Nat → Int32} {b_choicesOf : Nat → Int32} {b_todo : Nat → Int32} {b_cache : Nat → Int32} {b_path : Nat → Int32} {b_tops : Nat → Int32} {b_missed : Nat → Int32} {b_struck : Nat → Int32} {b_worstPath : Nat → Int32} {b_mostMissed : Nat → Int32} {b_mostStruck : Nat → Int32} {b_leastMissed : Nat → Int32} {b_held : Nat → Int32} {b_contents : Nat → Int64} {b_ages : Nat → Int32} {b_phase : Nat → Int32} {b_node : Nat → Int32} {b_sum : Nat → Int32} {b_saved : Nat → Int32} {b_greatest : Nat → Int32} {b_met : Nat → Int32} {b_unsure : Nat → Int32} {post : SY → Prop} {w s : Nat} {ag : Nat → Int32} (hw : w ≤ 4) (hs0 : 0 < s) (hs : s ≤ 4) (R : cr_R w s ag b_cache)
    (H : ∃ n238 : Nat, wY_note_238 post (lN (cd_c 13 (nt_y b_cache) 16)) h_sets h_places h_made h_depth h_size h_open h_time h_chosen h_kept h_worst h_best h_worstRuns h_worstChoices h_ends h_bound h_under h_back b_sorts b_lows b_highs b_firsts b_seconds b_stack b_pathsOf b_lengthOf b_choicesOf b_todo b_cache b_path b_tops b_missed b_struck b_worstPath b_mostMissed b_mostStruck b_leastMissed (hd_f w s ag b_held 16) b_contents b_ages b_phase b_node b_sum b_saved b_greatest b_met b_unsure n238 0 0) :
    ∀ d i, i + d = 16 → wY_note_181 post h_sets h_places h_made h_depth h_size h_open h_time h_chosen h_kept h_worst h_best h_worstRuns h_worstChoices h_ends h_bound h_under h_back (d + 1) (lN (cd_c 13 (nt_y b_cache) i)) (nI i) b_sorts b_lows b_highs b_firsts b_seconds b_stack b_pathsOf b_lengthOf b_choicesOf b_todo b_cache b_path b_tops b_missed b_struck b_worstPath b_mostMissed b_mostStruck b_leastMissed (hd_f w s ag b_held i) b_contents b_ages b_phase b_node b_sum b_saved b_greatest b_met b_unsure := by
  intro d
  induction d with
  | zero =>
    intro i hi
    have hi : i = 16 := by omega
    subst hi
    exact br_t (by decide) H
  | succ d ih =>
    intro i hi
    have c : (nI i).toNatClampNeg = i := nI_clamp (by omega)
    have ii : vp_in (nI i) 16 := vp_in_nI (by omega) (by omega)
    have cell : b_cache i = -1 ∨ ∃ m, m < 12 ∧ b_cache i = nI m := by
      rcases R.2 (i / 4) (i % 4) (by omega) (by omega) with z | ⟨z1, m, z2, z3, z4⟩
      · rw [show 4 * (i / 4) + i % 4 = i by omega] at z; exact Or.inl z
      · rw [show 4 * (i / 4) + i % 4 = i by omega] at z4; exact Or.inr ⟨m, z2, z4⟩
    have e : (lN (cd_c 13 (nt_y b_cache) i) * 13) + (b_cache i).toInt64 + 1 = lN (cd_c 13 (nt_y b_cache) (i + 1)) := by
      refine cy_next ?_
      rcases cell with z | ⟨m, m1, m2⟩
      · refine Or.inl ⟨z, ?_⟩
        unfold nt_y; rw [z, nt_m1, nI_clamp (by omega)]
      · refine Or.inr ⟨m, m1, m2, ?_⟩
        unfold nt_y; rw [m2, nI_1, nI_clamp (by omega)]
    refine br_f (nI_ge (b := 16) (by omega) (by omega)) ⟨ii, ?_⟩
    rw [c, e]
    refine nm_e ⟨ii, ?_⟩
    rcases cell with z | ⟨m, m1, m2⟩
    · refine br_t (by rw [z]; decide) (nm_r (nI_1 i) ?_)
      rw [hd_no hw hs0 hs R (by omega) z]
      exact ih (i + 1) (by omega)
    · have cm : (nI m).toNatClampNeg = m := nI_clamp (by omega)
      have im : vp_in (nI m) 12 := vp_in_nI m1 (by omega)
      rw [m2]
      refine br_f (nI_pos (by omega)) ⟨ii, im, im, ?_⟩
      rw [cm, hd_yes hw hs0 hs R (by omega) m1 m2]
      exact nm_e (nm_r (nI_1 i) (ih (i + 1) (by omega)))
/-- is the content known? -/
theorem xn_56a {f_setBits : Int32} {f_placeCount : Int32} {f_made : Int32} {f_height : Int32} {f_pathCount : Int32} {f_greatestLength : Int32} {f_worstTime : Int32} {f_bestTime : Int32} {f_worstCount : Int32} {f_programBound : Int32} {f_endingCount : Int32} {f_chosen : Int32} {f_time : Int32} {a_kind : Nat → Int32} {a_first : Nat → Int32} {a_second : Nat → Int32} {a_low : Nat → Int32} {a_high : Nat → Int32} {a_parent : Nat → Int32} {a_pathsOf : Nat → Int32} {a_lengthOf : Nat → Int32} {a_choicesOf : Nat → Int32} {a_stack : Nat → Int32} {a_worstPath : Nat → Int32} {a_sureness : Nat → Int32} {a_mostMisses : Nat → Int32} {a_mostHits : Nat → Int32} {a_leastMisses : Nat → Int32} {a_endings : Nat → Int64} {a_runsHolding : Nat → Int32} {a_rounds : Nat → Int32} {a_path : Nat → Int32} {a_pathTop : Nat → Int32} {a_cache : Nat → Int32} {a_runMisses : Nat → Int32} {a_runHits : Nat → Int32} {a_table : Nat → Int32} {a_before : Nat → Int32} {a_behind : Nat → Int32} {post : SX → Prop} {x1 : Int64} {en : Nat} (hen : en ≤ 150) (he : f_endingCount = nI en) (H : post (f_setBits, f_placeCount, f_made, f_height, f_pathCount, f_greatestLength, f_worstTime, f_bestTime, f_worstCount, f_programBound, f_endingCount, f_chosen, f_time, a_kind, a_first, a_second, a_low, a_high, a_parent, a_pathsOf, a_lengthOf, a_choicesOf, a_stack, a_worstPath, a_sureness, a_mostMisses, a_mostHits, a_leastMisses, a_endings, a_runsHolding, a_rounds, a_path, a_pathTop, a_cache, a_runMisses, a_runHits, a_table, a_before, a_behind)) : ∀ d i, i + d = en → wX_noteEnding_56 post x1 f_setBits f_placeCount f_made f_height f_pathCount f_greatestLength f_worstTime f_bestTime f_worstCount f_programBound f_endingCount f_chosen f_time a_kind a_first a_second a_low a_high a_parent a_pathsOf a_lengthOf a_choicesOf a_stack a_worstPath a_sureness a_mostMisses a_mostHits a_leastMisses a_endings a_runsHolding a_rounds a_path a_pathTop a_cache a_runMisses a_runHits a_table a_before a_behind (d + 1) 1 (nI i) := by
  subst he
  intro d
  induction d with
  | zero =>
    intro i hi
    have hi : i = en := by omega
    subst hi
    exact br_t (nI_le (Nat.le_refl _) (by omega)) (br_f (by decide) H)
  | succ d ih =>
    intro i hi
    exact br_f (nI_ge (by omega) (by omega)) (br_f (by decide) (nm_r (nI_1 i) (ih (i + 1) (by omega))))
theorem xn_56 {f_setBits : Int32} {f_placeCount : Int32} {f_made : Int32} {f_height : Int32} {f_pathCount : Int32} {f_greatestLength : Int32} {f_worstTime : Int32} {f_bestTime : Int32} {f_worstCount : Int32} {f_programBound : Int32} {f_endingCount : Int32} {f_chosen : Int32} {f_time : Int32} {a_kind : Nat → Int32} {a_first : Nat → Int32} {a_second : Nat → Int32} {a_low : Nat → Int32} {a_high : Nat → Int32} {a_parent : Nat → Int32} {a_pathsOf : Nat → Int32} {a_lengthOf : Nat → Int32} {a_choicesOf : Nat → Int32} {a_stack : Nat → Int32} {a_worstPath : Nat → Int32} {a_sureness : Nat → Int32} {a_mostMisses : Nat → Int32} {a_mostHits : Nat → Int32} {a_leastMisses : Nat → Int32} {a_endings : Nat → Int64} {a_runsHolding : Nat → Int32} {a_rounds : Nat → Int32} {a_path : Nat → Int32} {a_pathTop : Nat → Int32} {a_cache : Nat → Int32} {a_runMisses : Nat → Int32} {a_runHits : Nat → Int32} {a_table : Nat → Int32} {a_before : Nat → Int32} {a_behind : Nat → Int32} {post : SX → Prop} {x1 : Int64} {en : Nat} (hen : en < 150) (he : f_endingCount = nI en)
    (Hn : (∀ j, j < en → ¬ a_endings j = x1) → post (f_setBits, f_placeCount, f_made, f_height, f_pathCount, f_greatestLength, f_worstTime, f_bestTime, f_worstCount, f_programBound, nI (en + 1), f_chosen, f_time, a_kind, a_first, a_second, a_low, a_high, a_parent, a_pathsOf, a_lengthOf, a_choicesOf, a_stack, a_worstPath, a_sureness, a_mostMisses, a_mostHits, a_leastMisses, vp_updL a_endings en x1, a_runsHolding, a_rounds, a_path, a_pathTop, a_cache, a_runMisses, a_runHits, a_table, a_before, a_behind)) (Hy : (∃ j, j < en ∧ a_endings j = x1) → post (f_setBits, f_placeCount, f_made, f_height, f_pathCount, f_greatestLength, f_worstTime, f_bestTime, f_worstCount, f_programBound, f_endingCount, f_chosen, f_time, a_kind, a_first, a_second, a_low, a_high, a_parent, a_pathsOf, a_lengthOf, a_choicesOf, a_stack, a_worstPath, a_sureness, a_mostMisses, a_mostHits, a_leastMisses, a_endings, a_runsHolding, a_rounds, a_path, a_pathTop, a_cache, a_runMisses, a_runHits, a_table, a_before, a_behind)) : ∀ d i, i + d = en → (∀ j, j < i → ¬ a_endings j = x1) → wX_noteEnding_56 post x1 f_setBits f_placeCount f_made f_height f_pathCount f_greatestLength f_worstTime f_bestTime f_worstCount f_programBound f_endingCount f_chosen f_time a_kind a_first a_second a_low a_high a_parent a_pathsOf a_lengthOf a_choicesOf a_stack a_worstPath a_sureness a_mostMisses a_mostHits a_leastMisses a_endings a_runsHolding a_rounds a_path a_pathTop a_cache a_runMisses a_runHits a_table a_before a_behind (d + 1) 0 (nI i) := by
  subst he
  intro d
  induction d with
  | zero =>
    intro i hi hb
    have hi : i = en := by omega
    subst hi
    have c : (nI i).toNatClampNeg = i := nI_clamp (by omega)
    refine br_t (nI_le (Nat.le_refl _) (by omega)) (br_t rfl (br_f (nI_ge (b := 150) hen (by omega)) ⟨vp_in_nI hen (by omega), ?_⟩))
    rw [c]
    exact nm_e (nm_r (nI_1 i) (Hn hb))
  | succ d ih =>
    intro i hi hb
    have c : (nI i).toNatClampNeg = i := nI_clamp (by omega)
    refine br_f (nI_ge (by omega) (by omega)) (br_t rfl ⟨vp_in_nI (by omega) (by omega), ?_⟩)
    rw [c]
    refine br_c (fun z => nm_r (nI_1 i) ?_) (fun z => nm_r (nI_1 i) ?_)
    · exact xn_56a (by omega) rfl (Hy ⟨i, by omega, z⟩) d (i + 1) (by omega)
    · refine ih (i + 1) (by omega) fun j hj => ?_
      rcases Nat.lt_or_ge j i with y | y
      · exact hb j y
      · have : j = i := by omega
        subst this; exact z
theorem yn_238a {h_sets : Int32} {h_places : Int32} {h_made : Int32} {h_depth : Int32} {h_size : Int32} {h_open : Int32} {h_time : Int32} {h_chosen : Int32} {h_kept : Int32} {h_worst : Int32} {h_best : Int32} {h_worstRuns : Int32} {h_worstChoices : Int32} {h_ends : Int32} {h_bound : Int32} {h_under : Int32} {h_back : Int32} {b_sorts : Nat → Int32} {b_lows : Nat → Int32} {b_highs : Nat → Int32} {b_firsts : Nat → Int32} {b_seconds : Nat → Int32} {b_stack : Nat → Int32} {b_pathsOf : Nat → Int32} {b_lengthOf : Nat → Int32} {b_choicesOf : Nat → Int32} {b_todo : Nat → Int32} {b_cache : Nat → Int32} {b_path : Nat → Int32} {b_tops : Nat → Int32} {b_missed : Nat → Int32} {b_struck : Nat → Int32} {b_worstPath : Nat → Int32} {b_mostMissed : Nat → Int32} {b_mostStruck : Nat → Int32} {b_leastMissed : Nat → Int32} {b_held : Nat → Int32} {b_contents : Nat → Int64} {b_ages : Nat → Int32} {b_phase : Nat → Int32} {b_node : Nat → Int32} {b_sum : Nat → Int32} {b_saved : Nat → Int32} {b_greatest : Nat → Int32} {b_met : Nat → Int32} {b_unsure : Nat → Int32} {post : SY → Prop} {x1 : Int64} {en : Nat} (hen : en ≤ 150) (he : h_ends = nI en) (H : post (h_sets, h_places, h_made, h_depth, h_size, h_open, h_time, h_chosen, h_kept, h_worst, h_best, h_worstRuns, h_worstChoices, h_ends, h_bound, h_under, h_back, b_sorts, b_lows, b_highs, b_firsts, b_seconds, b_stack, b_pathsOf, b_lengthOf, b_choicesOf, b_todo, b_cache, b_path, b_tops, b_missed, b_struck, b_worstPath, b_mostMissed, b_mostStruck, b_leastMissed, b_held, b_contents, b_ages, b_phase, b_node, b_sum, b_saved, b_greatest, b_met, b_unsure)) : ∀ d i, i + d = en → wY_note_238 post x1 h_sets h_places h_made h_depth h_size h_open h_time h_chosen h_kept h_worst h_best h_worstRuns h_worstChoices h_ends h_bound h_under h_back b_sorts b_lows b_highs b_firsts b_seconds b_stack b_pathsOf b_lengthOf b_choicesOf b_todo b_cache b_path b_tops b_missed b_struck b_worstPath b_mostMissed b_mostStruck b_leastMissed b_held b_contents b_ages b_phase b_node b_sum b_saved b_greatest b_met b_unsure (d + 1) 1 (nI i) := by
  subst he
  intro d
  induction d with
  | zero =>
    intro i hi
    have hi : i = en := by omega
    subst hi
    exact br_t (nI_le (Nat.le_refl _) (by omega)) (br_f (by decide) H)
  | succ d ih =>
    intro i hi
    exact br_f (nI_ge (by omega) (by omega)) (br_f (by decide) (nm_r (nI_1 i) (ih (i + 1) (by omega))))
theorem yn_238 {h_sets : Int32} {h_places : Int32} {h_made : Int32} {h_depth : Int32} {h_size : Int32} {h_open : Int32} {h_time : Int32} {h_chosen : Int32} {h_kept : Int32} {h_worst : Int32} {h_best : Int32} {h_worstRuns : Int32} {h_worstChoices : Int32} {h_ends : Int32} {h_bound : Int32} {h_under : Int32} {h_back : Int32} {b_sorts : Nat → Int32} {b_lows : Nat → Int32} {b_highs : Nat → Int32} {b_firsts : Nat → Int32} {b_seconds : Nat → Int32} {b_stack : Nat → Int32} {b_pathsOf : Nat → Int32} {b_lengthOf : Nat → Int32} {b_choicesOf : Nat → Int32} {b_todo : Nat → Int32} {b_cache : Nat → Int32} {b_path : Nat → Int32} {b_tops : Nat → Int32} {b_missed : Nat → Int32} {b_struck : Nat → Int32} {b_worstPath : Nat → Int32} {b_mostMissed : Nat → Int32} {b_mostStruck : Nat → Int32} {b_leastMissed : Nat → Int32} {b_held : Nat → Int32} {b_contents : Nat → Int64} {b_ages : Nat → Int32} {b_phase : Nat → Int32} {b_node : Nat → Int32} {b_sum : Nat → Int32} {b_saved : Nat → Int32} {b_greatest : Nat → Int32} {b_met : Nat → Int32} {b_unsure : Nat → Int32} {post : SY → Prop} {x1 : Int64} {en : Nat} (hen : en < 150) (he : h_ends = nI en)
    (Hn : (∀ j, j < en → ¬ b_contents j = x1) → post (h_sets, h_places, h_made, h_depth, h_size, h_open, h_time, h_chosen, h_kept, h_worst, h_best, h_worstRuns, h_worstChoices, nI (en + 1), h_bound, h_under, h_back, b_sorts, b_lows, b_highs, b_firsts, b_seconds, b_stack, b_pathsOf, b_lengthOf, b_choicesOf, b_todo, b_cache, b_path, b_tops, b_missed, b_struck, b_worstPath, b_mostMissed, b_mostStruck, b_leastMissed, b_held, vp_updL b_contents en x1, b_ages, b_phase, b_node, b_sum, b_saved, b_greatest, b_met, b_unsure)) (Hy : (∃ j, j < en ∧ b_contents j = x1) → post (h_sets, h_places, h_made, h_depth, h_size, h_open, h_time, h_chosen, h_kept, h_worst, h_best, h_worstRuns, h_worstChoices, h_ends, h_bound, h_under, h_back, b_sorts, b_lows, b_highs, b_firsts, b_seconds, b_stack, b_pathsOf, b_lengthOf, b_choicesOf, b_todo, b_cache, b_path, b_tops, b_missed, b_struck, b_worstPath, b_mostMissed, b_mostStruck, b_leastMissed, b_held, b_contents, b_ages, b_phase, b_node, b_sum, b_saved, b_greatest, b_met, b_unsure)) : ∀ d i, i + d = en → (∀ j, j < i → ¬ b_contents j = x1) → wY_note_238 post x1 h_sets h_places h_made h_depth h_size h_open h_time h_chosen h_kept h_worst h_best h_worstRuns h_worstChoices h_ends h_bound h_under h_back b_sorts b_lows b_highs b_firsts b_seconds b_stack b_pathsOf b_lengthOf b_choicesOf b_todo b_cache b_path b_tops b_missed b_struck b_worstPath b_mostMissed b_mostStruck b_leastMissed b_held b_contents b_ages b_phase b_node b_sum b_saved b_greatest b_met b_unsure (d + 1) 0 (nI i) := by
  subst he
  intro d
  induction d with
  | zero =>
    intro i hi hb
    have hi : i = en := by omega
    subst hi
    have c : (nI i).toNatClampNeg = i := nI_clamp (by omega)
    refine br_t (nI_le (Nat.le_refl _) (by omega)) (br_t rfl ⟨vp_in_nI hen (by omega), ?_⟩)
    rw [c]
    exact nm_e (nm_r (nI_1 i) (Hn hb))
  | succ d ih =>
    intro i hi hb
    have c : (nI i).toNatClampNeg = i := nI_clamp (by omega)
    refine br_f (nI_ge (by omega) (by omega)) (br_t rfl ⟨vp_in_nI (by omega) (by omega), ?_⟩)
    rw [c]
    refine br_c (fun z => nm_r (nI_1 i) ?_) (fun z => nm_r (nI_1 i) ?_)
    · exact yn_238a (by omega) rfl (Hy ⟨i, by omega, z⟩) d (i + 1) (by omega)
    · refine ih (i + 1) (by omega) fun j hj => ?_
      rcases Nat.lt_or_ge j i with y | y
      · exact hb j y
      · have : j = i := by omega
        subst this; exact z
end
section
/-! X: the steps over the sure tables -/
theorem ri_x (n i : Nat) : nI n * 13 + nI i = nI (n * 13 + i) := by
  rw [show (13 : Int32) = nI 13 from rfl, pk_mul, nI_add]
theorem ri_c {n i : Nat} (hn : n < 18) (hi : i < 13) : (nI n * 13 + nI i).toNatClampNeg = n * 13 + i := by rw [ri_x]; exact nI_clamp (by omega)
theorem ri_i {n i : Nat} (hn : n < 18) (hi : i < 13) : vp_in (nI n * 13 + nI i) 234 := by rw [ri_x]; exact vp_in_nI (by omega) (by omega)
theorem rj_x (n i : Nat) : 12 * nI n + nI i = nI (12 * n + i) := by
  rw [show (12 : Int32) = nI 12 from rfl, pk_mul, nI_add]
theorem rj_c {n i : Nat} (hn : n < 20) (hi : i < 12) : (12 * nI n + nI i).toNatClampNeg = 12 * n + i := by rw [rj_x]; exact nI_clamp (by omega)
theorem rj_i {n i : Nat} (hn : n < 20) (hi : i < 12) : vp_in (12 * nI n + nI i) 240 := by rw [rj_x]; exact vp_in_nI (by omega) (by omega)
theorem xkb_l {f_setBits : Int32} {f_placeCount : Int32} {f_made : Int32} {f_height : Int32} {f_pathCount : Int32} {f_greatestLength : Int32} {f_worstTime : Int32} {f_bestTime : Int32} {f_worstCount : Int32} {f_programBound : Int32} {f_endingCount : Int32} {f_chosen : Int32} {f_time : Int32} {a_kind : Nat → Int32} {a_first : Nat → Int32} {a_second : Nat → Int32} {a_low : Nat → Int32} {a_high : Nat → Int32} {a_parent : Nat → Int32} {a_pathsOf : Nat → Int32} {a_lengthOf : Nat → Int32} {a_choicesOf : Nat → Int32} {a_stack : Nat → Int32} {a_worstPath : Nat → Int32} {a_sureness : Nat → Int32} {a_mostMisses : Nat → Int32} {a_mostHits : Nat → Int32} {a_leastMisses : Nat → Int32} {a_endings : Nat → Int64} {a_runsHolding : Nat → Int32} {a_rounds : Nat → Int32} {a_path : Nat → Int32} {a_pathTop : Nat → Int32} {a_cache : Nat → Int32} {a_runMisses : Nat → Int32} {a_runHits : Nat → Int32} {a_table : Nat → Int32} {a_before : Nat → Int32} {a_behind : Nat → Int32} {post : SX → Prop} {n : Nat} (hn : n < 18) (H : post (f_setBits, f_placeCount, f_made, f_height, f_pathCount, f_greatestLength, f_worstTime, f_bestTime, f_worstCount, f_programBound, f_endingCount, f_chosen, f_time, a_kind, a_first, a_second, a_low, a_high, a_parent, a_pathsOf, a_lengthOf, a_choicesOf, a_stack, a_worstPath, a_sureness, a_mostMisses, a_mostHits, a_leastMisses, a_endings, a_runsHolding, a_rounds, a_path, a_pathTop, a_cache, a_runMisses, a_runHits, a_table, sr_f (n * 13) a_table a_before 13, a_behind)) :
    ∀ d i, i + d = 13 → wX_keepBefore_2 post (nI n) f_setBits f_placeCount f_made f_height f_pathCount f_greatestLength f_worstTime f_bestTime f_worstCount f_programBound f_endingCount f_chosen f_time (d + 1) (nI i) a_kind a_first a_second a_low a_high a_parent a_pathsOf a_lengthOf a_choicesOf a_stack a_worstPath a_sureness a_mostMisses a_mostHits a_leastMisses a_endings a_runsHolding a_rounds a_path a_pathTop a_cache a_runMisses a_runHits a_table (sr_f (n * 13) a_table a_before i) a_behind := by
  intro d
  induction d with
  | zero =>
    intro i hi
    have hi : i = 13 := by omega
    subst hi
    exact br_t (by decide) H
  | succ d ih =>
    intro i hi
    have c : (nI i).toNatClampNeg = i := nI_clamp (by omega)
    have ii : vp_in (nI i) 13 := vp_in_nI (by omega) (by omega)
    have rc := ri_c hn (show i < 13 by omega)
    have rr := ri_i hn (show i < 13 by omega)
    refine br_f (nI_ge (b := 13) (by omega) (by omega)) ⟨ii, rr, ?_⟩
    rw [rc, c, sr_u rfl]
    exact nm_e (nm_r (nI_1 i) (ih (i + 1) (by omega)))
theorem xkb_m {f_setBits : Int32} {f_placeCount : Int32} {f_made : Int32} {f_height : Int32} {f_pathCount : Int32} {f_greatestLength : Int32} {f_worstTime : Int32} {f_bestTime : Int32} {f_worstCount : Int32} {f_programBound : Int32} {f_endingCount : Int32} {f_chosen : Int32} {f_time : Int32} {a_kind : Nat → Int32} {a_first : Nat → Int32} {a_second : Nat → Int32} {a_low : Nat → Int32} {a_high : Nat → Int32} {a_parent : Nat → Int32} {a_pathsOf : Nat → Int32} {a_lengthOf : Nat → Int32} {a_choicesOf : Nat → Int32} {a_stack : Nat → Int32} {a_worstPath : Nat → Int32} {a_sureness : Nat → Int32} {a_mostMisses : Nat → Int32} {a_mostHits : Nat → Int32} {a_leastMisses : Nat → Int32} {a_endings : Nat → Int64} {a_runsHolding : Nat → Int32} {a_rounds : Nat → Int32} {a_path : Nat → Int32} {a_pathTop : Nat → Int32} {a_cache : Nat → Int32} {a_runMisses : Nat → Int32} {a_runHits : Nat → Int32} {a_table : Nat → Int32} {a_before : Nat → Int32} {a_behind : Nat → Int32} {post : SX → Prop} {n : Nat} (hn : n < 18) (H : post (f_setBits, f_placeCount, f_made, f_height, f_pathCount, f_greatestLength, f_worstTime, f_bestTime, f_worstCount, f_programBound, f_endingCount, f_chosen, f_time, a_kind, a_first, a_second, a_low, a_high, a_parent, a_pathsOf, a_lengthOf, a_choicesOf, a_stack, a_worstPath, a_sureness, a_mostMisses, a_mostHits, a_leastMisses, a_endings, a_runsHolding, a_rounds, a_path, a_pathTop, a_cache, a_runMisses, a_runHits, a_table, sr_f (n * 13) a_table a_before 13, a_behind)) : wpX_keepBefore post (f_setBits, f_placeCount, f_made, f_height, f_pathCount, f_greatestLength, f_worstTime, f_bestTime, f_worstCount, f_programBound, f_endingCount, f_chosen, f_time, a_kind, a_first, a_second, a_low, a_high, a_parent, a_pathsOf, a_lengthOf, a_choicesOf, a_stack, a_worstPath, a_sureness, a_mostMisses, a_mostHits, a_leastMisses, a_endings, a_runsHolding, a_rounds, a_path, a_pathTop, a_cache, a_runMisses, a_runHits, a_table, a_before, a_behind) (nI n) := by
  have L := xkb_l (a_before := a_before) hn H 13 0 (by omega)
  rw [sr_0] at L
  exact Exists.intro 14 L
theorem xcb_l {f_setBits : Int32} {f_placeCount : Int32} {f_made : Int32} {f_height : Int32} {f_pathCount : Int32} {f_greatestLength : Int32} {f_worstTime : Int32} {f_bestTime : Int32} {f_worstCount : Int32} {f_programBound : Int32} {f_endingCount : Int32} {f_chosen : Int32} {f_time : Int32} {a_kind : Nat → Int32} {a_first : Nat → Int32} {a_second : Nat → Int32} {a_low : Nat → Int32} {a_high : Nat → Int32} {a_parent : Nat → Int32} {a_pathsOf : Nat → Int32} {a_lengthOf : Nat → Int32} {a_choicesOf : Nat → Int32} {a_stack : Nat → Int32} {a_worstPath : Nat → Int32} {a_sureness : Nat → Int32} {a_mostMisses : Nat → Int32} {a_mostHits : Nat → Int32} {a_leastMisses : Nat → Int32} {a_endings : Nat → Int64} {a_runsHolding : Nat → Int32} {a_rounds : Nat → Int32} {a_path : Nat → Int32} {a_pathTop : Nat → Int32} {a_cache : Nat → Int32} {a_runMisses : Nat → Int32} {a_runHits : Nat → Int32} {a_table : Nat → Int32} {a_before : Nat → Int32} {a_behind : Nat → Int32} {post : SX → Prop} {n : Nat} (hn : n < 18) (H : post (f_setBits, f_placeCount, f_made, f_height, f_pathCount, f_greatestLength, f_worstTime, f_bestTime, f_worstCount, f_programBound, f_endingCount, f_chosen, f_time, a_kind, a_first, a_second, a_low, a_high, a_parent, a_pathsOf, a_lengthOf, a_choicesOf, a_stack, a_worstPath, a_sureness, a_mostMisses, a_mostHits, a_leastMisses, a_endings, a_runsHolding, a_rounds, a_path, a_pathTop, a_cache, a_runMisses, a_runHits, a_table, a_before, sr_f (n * 13) (fun _ => 0) a_behind 13)) :
    ∀ d i, i + d = 13 → wX_clearBehind_2 post (nI n) f_setBits f_placeCount f_made f_height f_pathCount f_greatestLength f_worstTime f_bestTime f_worstCount f_programBound f_endingCount f_chosen f_time (d + 1) (nI i) a_kind a_first a_second a_low a_high a_parent a_pathsOf a_lengthOf a_choicesOf a_stack a_worstPath a_sureness a_mostMisses a_mostHits a_leastMisses a_endings a_runsHolding a_rounds a_path a_pathTop a_cache a_runMisses a_runHits a_table a_before (sr_f (n * 13) (fun _ => 0) a_behind i) := by
  intro d
  induction d with
  | zero =>
    intro i hi
    have hi : i = 13 := by omega
    subst hi
    exact br_t (by decide) H
  | succ d ih =>
    intro i hi
    have c : (nI i).toNatClampNeg = i := nI_clamp (by omega)
    have ii : vp_in (nI i) 13 := vp_in_nI (by omega) (by omega)
    have rc := ri_c hn (show i < 13 by omega)
    have rr := ri_i hn (show i < 13 by omega)
    refine br_f (nI_ge (b := 13) (by omega) (by omega)) ⟨rr, ?_⟩
    rw [rc, sr_u rfl]
    exact nm_e (nm_r (nI_1 i) (ih (i + 1) (by omega)))
theorem xcb_m {f_setBits : Int32} {f_placeCount : Int32} {f_made : Int32} {f_height : Int32} {f_pathCount : Int32} {f_greatestLength : Int32} {f_worstTime : Int32} {f_bestTime : Int32} {f_worstCount : Int32} {f_programBound : Int32} {f_endingCount : Int32} {f_chosen : Int32} {f_time : Int32} {a_kind : Nat → Int32} {a_first : Nat → Int32} {a_second : Nat → Int32} {a_low : Nat → Int32} {a_high : Nat → Int32} {a_parent : Nat → Int32} {a_pathsOf : Nat → Int32} {a_lengthOf : Nat → Int32} {a_choicesOf : Nat → Int32} {a_stack : Nat → Int32} {a_worstPath : Nat → Int32} {a_sureness : Nat → Int32} {a_mostMisses : Nat → Int32} {a_mostHits : Nat → Int32} {a_leastMisses : Nat → Int32} {a_endings : Nat → Int64} {a_runsHolding : Nat → Int32} {a_rounds : Nat → Int32} {a_path : Nat → Int32} {a_pathTop : Nat → Int32} {a_cache : Nat → Int32} {a_runMisses : Nat → Int32} {a_runHits : Nat → Int32} {a_table : Nat → Int32} {a_before : Nat → Int32} {a_behind : Nat → Int32} {post : SX → Prop} {n : Nat} (hn : n < 18) (H : post (f_setBits, f_placeCount, f_made, f_height, f_pathCount, f_greatestLength, f_worstTime, f_bestTime, f_worstCount, f_programBound, f_endingCount, f_chosen, f_time, a_kind, a_first, a_second, a_low, a_high, a_parent, a_pathsOf, a_lengthOf, a_choicesOf, a_stack, a_worstPath, a_sureness, a_mostMisses, a_mostHits, a_leastMisses, a_endings, a_runsHolding, a_rounds, a_path, a_pathTop, a_cache, a_runMisses, a_runHits, a_table, a_before, sr_f (n * 13) (fun _ => 0) a_behind 13)) : wpX_clearBehind post (f_setBits, f_placeCount, f_made, f_height, f_pathCount, f_greatestLength, f_worstTime, f_bestTime, f_worstCount, f_programBound, f_endingCount, f_chosen, f_time, a_kind, a_first, a_second, a_low, a_high, a_parent, a_pathsOf, a_lengthOf, a_choicesOf, a_stack, a_worstPath, a_sureness, a_mostMisses, a_mostHits, a_leastMisses, a_endings, a_runsHolding, a_rounds, a_path, a_pathTop, a_cache, a_runMisses, a_runHits, a_table, a_before, a_behind) (nI n) := by
  have L := xcb_l (a_behind := a_behind) hn H 13 0 (by omega)
  rw [sr_0] at L
  exact Exists.intro 14 L
theorem xrb_l {f_setBits : Int32} {f_placeCount : Int32} {f_made : Int32} {f_height : Int32} {f_pathCount : Int32} {f_greatestLength : Int32} {f_worstTime : Int32} {f_bestTime : Int32} {f_worstCount : Int32} {f_programBound : Int32} {f_endingCount : Int32} {f_chosen : Int32} {f_time : Int32} {a_kind : Nat → Int32} {a_first : Nat → Int32} {a_second : Nat → Int32} {a_low : Nat → Int32} {a_high : Nat → Int32} {a_parent : Nat → Int32} {a_pathsOf : Nat → Int32} {a_lengthOf : Nat → Int32} {a_choicesOf : Nat → Int32} {a_stack : Nat → Int32} {a_worstPath : Nat → Int32} {a_sureness : Nat → Int32} {a_mostMisses : Nat → Int32} {a_mostHits : Nat → Int32} {a_leastMisses : Nat → Int32} {a_endings : Nat → Int64} {a_runsHolding : Nat → Int32} {a_rounds : Nat → Int32} {a_path : Nat → Int32} {a_pathTop : Nat → Int32} {a_cache : Nat → Int32} {a_runMisses : Nat → Int32} {a_runHits : Nat → Int32} {a_table : Nat → Int32} {a_before : Nat → Int32} {a_behind : Nat → Int32} {post : SX → Prop} {n : Nat} (hn : n < 18) (H : post (f_setBits, f_placeCount, f_made, f_height, f_pathCount, f_greatestLength, f_worstTime, f_bestTime, f_worstCount, f_programBound, f_endingCount, f_chosen, f_time, a_kind, a_first, a_second, a_low, a_high, a_parent, a_pathsOf, a_lengthOf, a_choicesOf, a_stack, a_worstPath, a_sureness, a_mostMisses, a_mostHits, a_leastMisses, a_endings, a_runsHolding, a_rounds, a_path, a_pathTop, a_cache, a_runMisses, a_runHits, a_table, a_before, sr_f (n * 13) (fun x => ix_x (a_table x) (a_behind (n * 13 + x))) a_behind 13)) :
    ∀ d i, i + d = 13 → wX_raiseBehind_2 post (nI n) f_setBits f_placeCount f_made f_height f_pathCount f_greatestLength f_worstTime f_bestTime f_worstCount f_programBound f_endingCount f_chosen f_time (d + 1) (nI i) a_kind a_first a_second a_low a_high a_parent a_pathsOf a_lengthOf a_choicesOf a_stack a_worstPath a_sureness a_mostMisses a_mostHits a_leastMisses a_endings a_runsHolding a_rounds a_path a_pathTop a_cache a_runMisses a_runHits a_table a_before (sr_f (n * 13) (fun x => ix_x (a_table x) (a_behind (n * 13 + x))) a_behind i) := by
  intro d
  induction d with
  | zero =>
    intro i hi
    have hi : i = 13 := by omega
    subst hi
    exact br_t (by decide) H
  | succ d ih =>
    intro i hi
    have c : (nI i).toNatClampNeg = i := nI_clamp (by omega)
    have ii : vp_in (nI i) 13 := vp_in_nI (by omega) (by omega)
    have rc := ri_c hn (show i < 13 by omega)
    have rr := ri_i hn (show i < 13 by omega)
    refine br_f (nI_ge (b := 13) (by omega) (by omega)) ⟨ii, rr, ?_⟩
    rw [rc, c, sr_at]
    refine br_c (fun z => nm_r (nI_1 i) ?_) (fun z => ⟨ii, rr, ?_⟩)
    · rw [sr_k (i := i) (by unfold ix_x; rw [if_pos z])]
      exact ih (i + 1) (by omega)
    · rw [sr_u (by unfold ix_x; rw [if_neg z])]
      exact nm_e (nm_r (nI_1 i) (ih (i + 1) (by omega)))
theorem xrb_m {f_setBits : Int32} {f_placeCount : Int32} {f_made : Int32} {f_height : Int32} {f_pathCount : Int32} {f_greatestLength : Int32} {f_worstTime : Int32} {f_bestTime : Int32} {f_worstCount : Int32} {f_programBound : Int32} {f_endingCount : Int32} {f_chosen : Int32} {f_time : Int32} {a_kind : Nat → Int32} {a_first : Nat → Int32} {a_second : Nat → Int32} {a_low : Nat → Int32} {a_high : Nat → Int32} {a_parent : Nat → Int32} {a_pathsOf : Nat → Int32} {a_lengthOf : Nat → Int32} {a_choicesOf : Nat → Int32} {a_stack : Nat → Int32} {a_worstPath : Nat → Int32} {a_sureness : Nat → Int32} {a_mostMisses : Nat → Int32} {a_mostHits : Nat → Int32} {a_leastMisses : Nat → Int32} {a_endings : Nat → Int64} {a_runsHolding : Nat → Int32} {a_rounds : Nat → Int32} {a_path : Nat → Int32} {a_pathTop : Nat → Int32} {a_cache : Nat → Int32} {a_runMisses : Nat → Int32} {a_runHits : Nat → Int32} {a_table : Nat → Int32} {a_before : Nat → Int32} {a_behind : Nat → Int32} {post : SX → Prop} {n : Nat} (hn : n < 18) (H : post (f_setBits, f_placeCount, f_made, f_height, f_pathCount, f_greatestLength, f_worstTime, f_bestTime, f_worstCount, f_programBound, f_endingCount, f_chosen, f_time, a_kind, a_first, a_second, a_low, a_high, a_parent, a_pathsOf, a_lengthOf, a_choicesOf, a_stack, a_worstPath, a_sureness, a_mostMisses, a_mostHits, a_leastMisses, a_endings, a_runsHolding, a_rounds, a_path, a_pathTop, a_cache, a_runMisses, a_runHits, a_table, a_before, sr_f (n * 13) (fun x => ix_x (a_table x) (a_behind (n * 13 + x))) a_behind 13)) : wpX_raiseBehind post (f_setBits, f_placeCount, f_made, f_height, f_pathCount, f_greatestLength, f_worstTime, f_bestTime, f_worstCount, f_programBound, f_endingCount, f_chosen, f_time, a_kind, a_first, a_second, a_low, a_high, a_parent, a_pathsOf, a_lengthOf, a_choicesOf, a_stack, a_worstPath, a_sureness, a_mostMisses, a_mostHits, a_leastMisses, a_endings, a_runsHolding, a_rounds, a_path, a_pathTop, a_cache, a_runMisses, a_runHits, a_table, a_before, a_behind) (nI n) := by
  have L := xrb_l (a_behind := a_behind) hn H 13 0 (by omega)
  rw [sr_0] at L
  exact Exists.intro 14 L
theorem xte_l {f_setBits : Int32} {f_placeCount : Int32} {f_made : Int32} {f_height : Int32} {f_pathCount : Int32} {f_greatestLength : Int32} {f_worstTime : Int32} {f_bestTime : Int32} {f_worstCount : Int32} {f_programBound : Int32} {f_endingCount : Int32} {f_chosen : Int32} {f_time : Int32} {a_kind : Nat → Int32} {a_first : Nat → Int32} {a_second : Nat → Int32} {a_low : Nat → Int32} {a_high : Nat → Int32} {a_parent : Nat → Int32} {a_pathsOf : Nat → Int32} {a_lengthOf : Nat → Int32} {a_choicesOf : Nat → Int32} {a_stack : Nat → Int32} {a_worstPath : Nat → Int32} {a_sureness : Nat → Int32} {a_mostMisses : Nat → Int32} {a_mostHits : Nat → Int32} {a_leastMisses : Nat → Int32} {a_endings : Nat → Int64} {a_runsHolding : Nat → Int32} {a_rounds : Nat → Int32} {a_path : Nat → Int32} {a_pathTop : Nat → Int32} {a_cache : Nat → Int32} {a_runMisses : Nat → Int32} {a_runHits : Nat → Int32} {a_table : Nat → Int32} {a_before : Nat → Int32} {a_behind : Nat → Int32} {post : SX → Prop} {n : Nat} (hn : n < 18) (H : post (f_setBits, f_placeCount, f_made, f_height, f_pathCount, f_greatestLength, f_worstTime, f_bestTime, f_worstCount, f_programBound, f_endingCount, f_chosen, f_time, a_kind, a_first, a_second, a_low, a_high, a_parent, a_pathsOf, a_lengthOf, a_choicesOf, a_stack, a_worstPath, a_sureness, a_mostMisses, a_mostHits, a_leastMisses, a_endings, a_runsHolding, a_rounds, a_path, a_pathTop, a_cache, a_runMisses, a_runHits, sw_f (fun x => a_behind (n * 13 + x)) a_table 13, a_before, a_behind)) :
    ∀ d i, i + d = 13 → wX_takeTable__behind_2 post (nI n) f_setBits f_placeCount f_made f_height f_pathCount f_greatestLength f_worstTime f_bestTime f_worstCount f_programBound f_endingCount f_chosen f_time (d + 1) (nI i) a_kind a_first a_second a_low a_high a_parent a_pathsOf a_lengthOf a_choicesOf a_stack a_worstPath a_sureness a_mostMisses a_mostHits a_leastMisses a_endings a_runsHolding a_rounds a_path a_pathTop a_cache a_runMisses a_runHits (sw_f (fun x => a_behind (n * 13 + x)) a_table i) a_before a_behind := by
  intro d
  induction d with
  | zero =>
    intro i hi
    have hi : i = 13 := by omega
    subst hi
    exact br_t (by decide) H
  | succ d ih =>
    intro i hi
    have c : (nI i).toNatClampNeg = i := nI_clamp (by omega)
    have ii : vp_in (nI i) 13 := vp_in_nI (by omega) (by omega)
    have rc := ri_c hn (show i < 13 by omega)
    have rr := ri_i hn (show i < 13 by omega)
    refine br_f (nI_ge (b := 13) (by omega) (by omega)) ⟨rr, ii, ?_⟩
    rw [rc, c, sw_u rfl]
    exact nm_e (nm_r (nI_1 i) (ih (i + 1) (by omega)))
theorem xte_m {f_setBits : Int32} {f_placeCount : Int32} {f_made : Int32} {f_height : Int32} {f_pathCount : Int32} {f_greatestLength : Int32} {f_worstTime : Int32} {f_bestTime : Int32} {f_worstCount : Int32} {f_programBound : Int32} {f_endingCount : Int32} {f_chosen : Int32} {f_time : Int32} {a_kind : Nat → Int32} {a_first : Nat → Int32} {a_second : Nat → Int32} {a_low : Nat → Int32} {a_high : Nat → Int32} {a_parent : Nat → Int32} {a_pathsOf : Nat → Int32} {a_lengthOf : Nat → Int32} {a_choicesOf : Nat → Int32} {a_stack : Nat → Int32} {a_worstPath : Nat → Int32} {a_sureness : Nat → Int32} {a_mostMisses : Nat → Int32} {a_mostHits : Nat → Int32} {a_leastMisses : Nat → Int32} {a_endings : Nat → Int64} {a_runsHolding : Nat → Int32} {a_rounds : Nat → Int32} {a_path : Nat → Int32} {a_pathTop : Nat → Int32} {a_cache : Nat → Int32} {a_runMisses : Nat → Int32} {a_runHits : Nat → Int32} {a_table : Nat → Int32} {a_before : Nat → Int32} {a_behind : Nat → Int32} {post : SX → Prop} {n : Nat} (hn : n < 18) (H : post (f_setBits, f_placeCount, f_made, f_height, f_pathCount, f_greatestLength, f_worstTime, f_bestTime, f_worstCount, f_programBound, f_endingCount, f_chosen, f_time, a_kind, a_first, a_second, a_low, a_high, a_parent, a_pathsOf, a_lengthOf, a_choicesOf, a_stack, a_worstPath, a_sureness, a_mostMisses, a_mostHits, a_leastMisses, a_endings, a_runsHolding, a_rounds, a_path, a_pathTop, a_cache, a_runMisses, a_runHits, sw_f (fun x => a_behind (n * 13 + x)) a_table 13, a_before, a_behind)) : wpX_takeTable__behind post (f_setBits, f_placeCount, f_made, f_height, f_pathCount, f_greatestLength, f_worstTime, f_bestTime, f_worstCount, f_programBound, f_endingCount, f_chosen, f_time, a_kind, a_first, a_second, a_low, a_high, a_parent, a_pathsOf, a_lengthOf, a_choicesOf, a_stack, a_worstPath, a_sureness, a_mostMisses, a_mostHits, a_leastMisses, a_endings, a_runsHolding, a_rounds, a_path, a_pathTop, a_cache, a_runMisses, a_runHits, a_table, a_before, a_behind) (nI n) := by
  have L := xte_l (a_table := a_table) hn H 13 0 (by omega)
  rw [sw_0] at L
  exact Exists.intro 14 L
theorem xtf_l {f_setBits : Int32} {f_placeCount : Int32} {f_made : Int32} {f_height : Int32} {f_pathCount : Int32} {f_greatestLength : Int32} {f_worstTime : Int32} {f_bestTime : Int32} {f_worstCount : Int32} {f_programBound : Int32} {f_endingCount : Int32} {f_chosen : Int32} {f_time : Int32} {a_kind : Nat → Int32} {a_first : Nat → Int32} {a_second : Nat → Int32} {a_low : Nat → Int32} {a_high : Nat → Int32} {a_parent : Nat → Int32} {a_pathsOf : Nat → Int32} {a_lengthOf : Nat → Int32} {a_choicesOf : Nat → Int32} {a_stack : Nat → Int32} {a_worstPath : Nat → Int32} {a_sureness : Nat → Int32} {a_mostMisses : Nat → Int32} {a_mostHits : Nat → Int32} {a_leastMisses : Nat → Int32} {a_endings : Nat → Int64} {a_runsHolding : Nat → Int32} {a_rounds : Nat → Int32} {a_path : Nat → Int32} {a_pathTop : Nat → Int32} {a_cache : Nat → Int32} {a_runMisses : Nat → Int32} {a_runHits : Nat → Int32} {a_table : Nat → Int32} {a_before : Nat → Int32} {a_behind : Nat → Int32} {post : SX → Prop} {n : Nat} (hn : n < 18) (H : post (f_setBits, f_placeCount, f_made, f_height, f_pathCount, f_greatestLength, f_worstTime, f_bestTime, f_worstCount, f_programBound, f_endingCount, f_chosen, f_time, a_kind, a_first, a_second, a_low, a_high, a_parent, a_pathsOf, a_lengthOf, a_choicesOf, a_stack, a_worstPath, a_sureness, a_mostMisses, a_mostHits, a_leastMisses, a_endings, a_runsHolding, a_rounds, a_path, a_pathTop, a_cache, a_runMisses, a_runHits, sw_f (fun x => a_before (n * 13 + x)) a_table 13, a_before, a_behind)) :
    ∀ d i, i + d = 13 → wX_takeTable__before_2 post (nI n) f_setBits f_placeCount f_made f_height f_pathCount f_greatestLength f_worstTime f_bestTime f_worstCount f_programBound f_endingCount f_chosen f_time (d + 1) (nI i) a_kind a_first a_second a_low a_high a_parent a_pathsOf a_lengthOf a_choicesOf a_stack a_worstPath a_sureness a_mostMisses a_mostHits a_leastMisses a_endings a_runsHolding a_rounds a_path a_pathTop a_cache a_runMisses a_runHits (sw_f (fun x => a_before (n * 13 + x)) a_table i) a_before a_behind := by
  intro d
  induction d with
  | zero =>
    intro i hi
    have hi : i = 13 := by omega
    subst hi
    exact br_t (by decide) H
  | succ d ih =>
    intro i hi
    have c : (nI i).toNatClampNeg = i := nI_clamp (by omega)
    have ii : vp_in (nI i) 13 := vp_in_nI (by omega) (by omega)
    have rc := ri_c hn (show i < 13 by omega)
    have rr := ri_i hn (show i < 13 by omega)
    refine br_f (nI_ge (b := 13) (by omega) (by omega)) ⟨rr, ii, ?_⟩
    rw [rc, c, sw_u rfl]
    exact nm_e (nm_r (nI_1 i) (ih (i + 1) (by omega)))
theorem xtf_m {f_setBits : Int32} {f_placeCount : Int32} {f_made : Int32} {f_height : Int32} {f_pathCount : Int32} {f_greatestLength : Int32} {f_worstTime : Int32} {f_bestTime : Int32} {f_worstCount : Int32} {f_programBound : Int32} {f_endingCount : Int32} {f_chosen : Int32} {f_time : Int32} {a_kind : Nat → Int32} {a_first : Nat → Int32} {a_second : Nat → Int32} {a_low : Nat → Int32} {a_high : Nat → Int32} {a_parent : Nat → Int32} {a_pathsOf : Nat → Int32} {a_lengthOf : Nat → Int32} {a_choicesOf : Nat → Int32} {a_stack : Nat → Int32} {a_worstPath : Nat → Int32} {a_sureness : Nat → Int32} {a_mostMisses : Nat → Int32} {a_mostHits : Nat → Int32} {a_leastMisses : Nat → Int32} {a_endings : Nat → Int64} {a_runsHolding : Nat → Int32} {a_rounds : Nat → Int32} {a_path : Nat → Int32} {a_pathTop : Nat → Int32} {a_cache : Nat → Int32} {a_runMisses : Nat → Int32} {a_runHits : Nat → Int32} {a_table : Nat → Int32} {a_before : Nat → Int32} {a_behind : Nat → Int32} {post : SX → Prop} {n : Nat} (hn : n < 18) (H : post (f_setBits, f_placeCount, f_made, f_height, f_pathCount, f_greatestLength, f_worstTime, f_bestTime, f_worstCount, f_programBound, f_endingCount, f_chosen, f_time, a_kind, a_first, a_second, a_low, a_high, a_parent, a_pathsOf, a_lengthOf, a_choicesOf, a_stack, a_worstPath, a_sureness, a_mostMisses, a_mostHits, a_leastMisses, a_endings, a_runsHolding, a_rounds, a_path, a_pathTop, a_cache, a_runMisses, a_runHits, sw_f (fun x => a_before (n * 13 + x)) a_table 13, a_before, a_behind)) : wpX_takeTable__before post (f_setBits, f_placeCount, f_made, f_height, f_pathCount, f_greatestLength, f_worstTime, f_bestTime, f_worstCount, f_programBound, f_endingCount, f_chosen, f_time, a_kind, a_first, a_second, a_low, a_high, a_parent, a_pathsOf, a_lengthOf, a_choicesOf, a_stack, a_worstPath, a_sureness, a_mostMisses, a_mostHits, a_leastMisses, a_endings, a_runsHolding, a_rounds, a_path, a_pathTop, a_cache, a_runMisses, a_runHits, a_table, a_before, a_behind) (nI n) := by
  have L := xtf_l (a_table := a_table) hn H 13 0 (by omega)
  rw [sw_0] at L
  exact Exists.intro 14 L
theorem xt_acc {f_setBits : Int32} {f_placeCount : Int32} {f_made : Int32} {f_height : Int32} {f_pathCount : Int32} {f_greatestLength : Int32} {f_worstTime : Int32} {f_bestTime : Int32} {f_worstCount : Int32} {f_programBound : Int32} {f_endingCount : Int32} {f_chosen : Int32} {f_time : Int32} {a_kind : Nat → Int32} {a_first : Nat → Int32} {a_second : Nat → Int32} {a_low : Nat → Int32} {a_high : Nat → Int32} {a_parent : Nat → Int32} {a_pathsOf : Nat → Int32} {a_lengthOf : Nat → Int32} {a_choicesOf : Nat → Int32} {a_stack : Nat → Int32} {a_worstPath : Nat → Int32} {a_sureness : Nat → Int32} {a_mostMisses : Nat → Int32} {a_mostHits : Nat → Int32} {a_leastMisses : Nat → Int32} {a_endings : Nat → Int64} {a_runsHolding : Nat → Int32} {a_rounds : Nat → Int32} {a_path : Nat → Int32} {a_pathTop : Nat → Int32} {a_cache : Nat → Int32} {a_runMisses : Nat → Int32} {a_runHits : Nat → Int32} {a_table : Nat → Int32} {a_before : Nat → Int32} {a_behind : Nat → Int32} {P : SX → Prop} {s m n : Nat} (hn : n < 18) (hm : m < 12) (hb : ∀ x y, x < 12 → y < 12 → ((nI x &&& f_setBits) = (nI y &&& f_setBits) ↔ x % s = y % s)) (hf : a_first n = nI m)
    (Hh : ¬ f_placeCount ≤ a_table m → P (f_setBits, f_placeCount, f_made, f_height, f_pathCount, f_greatestLength, f_worstTime, f_bestTime, f_worstCount, f_programBound, f_endingCount, f_chosen, f_time, a_kind, a_first, a_second, a_low, a_high, a_parent, a_pathsOf, a_lengthOf, a_choicesOf, a_stack, a_worstPath, if a_sureness n = 2 then upd a_sureness n 1 else a_sureness, a_mostMisses, a_mostHits, a_leastMisses, a_endings, a_runsHolding, a_rounds, a_path, a_pathTop, a_cache, a_runMisses, a_runHits, upd (ac_a s m a_table) 12 (a_table 12 + 1), a_before, a_behind))
    (Hm : f_placeCount ≤ a_table m → P (f_setBits, f_placeCount, f_made, f_height, f_pathCount, f_greatestLength, f_worstTime, f_bestTime, f_worstCount, f_programBound, f_endingCount, f_chosen, f_time, a_kind, a_first, a_second, a_low, a_high, a_parent, a_pathsOf, a_lengthOf, a_choicesOf, a_stack, a_worstPath, upd a_sureness n 0, a_mostMisses, a_mostHits, a_leastMisses, a_endings, a_runsHolding, a_rounds, a_path, a_pathTop, a_cache, a_runMisses, a_runHits, upd (ac_a s m a_table) 12 (a_table 12 + 10), a_before, a_behind)) : wpX_accessInTables P (f_setBits, f_placeCount, f_made, f_height, f_pathCount, f_greatestLength, f_worstTime, f_bestTime, f_worstCount, f_programBound, f_endingCount, f_chosen, f_time, a_kind, a_first, a_second, a_low, a_high, a_parent, a_pathsOf, a_lengthOf, a_choicesOf, a_stack, a_worstPath, a_sureness, a_mostMisses, a_mostHits, a_leastMisses, a_endings, a_runsHolding, a_rounds, a_path, a_pathTop, a_cache, a_runMisses, a_runHits, a_table, a_before, a_behind) (nI n) := by
  have c : (nI n).toNatClampNeg = n := nI_clamp (by omega)
  have i : vp_in (nI n) 18 := vp_in_nI hn (by omega)
  have e12 : ac_a s m a_table 12 = a_table 12 := ac_big hm (Nat.le_refl _)
  refine And.intro i ?_
  rw [c, hf]
  refine xc_acctable (s := s) hm hb (fun h => ?_) (fun h => ?_)
  · refine nm_r (e' := upd (ac_a s m a_table) 12 (a_table 12 + 1)) (by rw [e12]) (br_t rfl ⟨i, ?_⟩)
    have w := Hh h
    refine br_c (fun z => ⟨i, nm_e ?_⟩) (fun z => ?_)
    · rw [if_pos z] at w; exact w
    · rw [if_neg z] at w; exact w
  · refine nm_r (e' := upd (ac_a s m a_table) 12 (a_table 12 + 10)) (by rw [e12]) (br_f (by decide) ⟨i, ?_⟩)
    exact nm_e (Hm h)
theorem xt_20 {f_setBits : Int32} {f_placeCount : Int32} {f_made : Int32} {f_height : Int32} {f_pathCount : Int32} {f_greatestLength : Int32} {f_worstTime : Int32} {f_bestTime : Int32} {f_worstCount : Int32} {f_programBound : Int32} {f_endingCount : Int32} {f_chosen : Int32} {f_time : Int32} {a_kind : Nat → Int32} {a_first : Nat → Int32} {a_second : Nat → Int32} {a_low : Nat → Int32} {a_high : Nat → Int32} {a_parent : Nat → Int32} {a_pathsOf : Nat → Int32} {a_lengthOf : Nat → Int32} {a_choicesOf : Nat → Int32} {a_stack : Nat → Int32} {a_worstPath : Nat → Int32} {a_sureness : Nat → Int32} {a_mostMisses : Nat → Int32} {a_mostHits : Nat → Int32} {a_leastMisses : Nat → Int32} {a_endings : Nat → Int64} {a_runsHolding : Nat → Int32} {a_rounds : Nat → Int32} {a_path : Nat → Int32} {a_pathTop : Nat → Int32} {a_cache : Nat → Int32} {a_runMisses : Nat → Int32} {a_runHits : Nat → Int32} {a_table : Nat → Int32} {a_before : Nat → Int32} {a_behind : Nat → Int32} {Q : Int32 → SX → Prop} {n i hi : Nat} (hn : n < 18) (hi4 : hi ≤ 4) (hii : i ≤ 4) (hr : a_rounds n = nI i) (hh : a_high n = nI hi)
    (H1 : i < hi → Q (a_first n) (f_setBits, f_placeCount, f_made, f_height, f_pathCount, f_greatestLength, f_worstTime, f_bestTime, f_worstCount, f_programBound, f_endingCount, f_chosen, f_time, a_kind, a_first, a_second, a_low, a_high, a_parent, a_pathsOf, a_lengthOf, a_choicesOf, a_stack, a_worstPath, a_sureness, a_mostMisses, a_mostHits, a_leastMisses, a_endings, a_runsHolding, upd a_rounds n (nI (i + 1)), a_path, a_pathTop, a_cache, a_runMisses, a_runHits, a_table, a_before, a_behind)) (H2 : ¬ i < hi → Q (nI n ^^^ (-1)) (f_setBits, f_placeCount, f_made, f_height, f_pathCount, f_greatestLength, f_worstTime, f_bestTime, f_worstCount, f_programBound, f_endingCount, f_chosen, f_time, a_kind, a_first, a_second, a_low, a_high, a_parent, a_pathsOf, a_lengthOf, a_choicesOf, a_stack, a_worstPath, a_sureness, a_mostMisses, a_mostHits, a_leastMisses, a_endings, a_runsHolding, a_rounds, a_path, a_pathTop, a_cache, a_runMisses, a_runHits, sw_f (fun x => a_behind (n * 13 + x)) a_table 13, a_before, a_behind)) : wX_nextRoundInTables_20 Q (nI n) f_setBits f_placeCount f_made f_height f_pathCount f_greatestLength f_worstTime f_bestTime f_worstCount f_programBound f_endingCount f_chosen f_time a_kind a_first a_second a_low a_high a_parent a_pathsOf a_lengthOf a_choicesOf a_stack a_worstPath a_sureness a_mostMisses a_mostHits a_leastMisses a_endings a_runsHolding a_rounds a_path a_pathTop a_cache a_runMisses a_runHits a_table a_before a_behind := by
  have c : (nI n).toNatClampNeg = n := nI_clamp (by omega)
  have ii : vp_in (nI n) 18 := vp_in_nI hn (by omega)
  refine And.intro ii ⟨ii, ?_⟩
  rw [c, hr, hh]
  by_cases z : i < hi
  · refine br_t (nI_lt z (by omega)) ⟨ii, ii, ?_⟩
    rw [nI_1]
    exact nm_e ⟨ii, H1 z⟩
  · exact br_f (nI_nlt (by omega) (by omega)) (xte_m hn (H2 z))
theorem xt_next {f_setBits : Int32} {f_placeCount : Int32} {f_made : Int32} {f_height : Int32} {f_pathCount : Int32} {f_greatestLength : Int32} {f_worstTime : Int32} {f_bestTime : Int32} {f_worstCount : Int32} {f_programBound : Int32} {f_endingCount : Int32} {f_chosen : Int32} {f_time : Int32} {a_kind : Nat → Int32} {a_first : Nat → Int32} {a_second : Nat → Int32} {a_low : Nat → Int32} {a_high : Nat → Int32} {a_parent : Nat → Int32} {a_pathsOf : Nat → Int32} {a_lengthOf : Nat → Int32} {a_choicesOf : Nat → Int32} {a_stack : Nat → Int32} {a_worstPath : Nat → Int32} {a_sureness : Nat → Int32} {a_mostMisses : Nat → Int32} {a_mostHits : Nat → Int32} {a_leastMisses : Nat → Int32} {a_endings : Nat → Int64} {a_runsHolding : Nat → Int32} {a_rounds : Nat → Int32} {a_path : Nat → Int32} {a_pathTop : Nat → Int32} {a_cache : Nat → Int32} {a_runMisses : Nat → Int32} {a_runHits : Nat → Int32} {a_table : Nat → Int32} {a_before : Nat → Int32} {a_behind : Nat → Int32} {Q : Int32 → SX → Prop} {n i lo hi : Nat} {be' : Nat → Int32} (hn : n < 18) (hl4 : lo ≤ 4) (hi4 : hi ≤ 4) (hii : i ≤ 4) (hr : a_rounds n = nI i) (hl : a_low n = nI lo) (hh : a_high n = nI hi)
    (hbe : (lo ≤ i ∧ be' = sr_f (n * 13) (fun x => ix_x (a_table x) (a_behind (n * 13 + x))) a_behind 13) ∨ (i < lo ∧ be' = a_behind))
    (H1 : i < hi → Q (a_first n) (f_setBits, f_placeCount, f_made, f_height, f_pathCount, f_greatestLength, f_worstTime, f_bestTime, f_worstCount, f_programBound, f_endingCount, f_chosen, f_time, a_kind, a_first, a_second, a_low, a_high, a_parent, a_pathsOf, a_lengthOf, a_choicesOf, a_stack, a_worstPath, a_sureness, a_mostMisses, a_mostHits, a_leastMisses, a_endings, a_runsHolding, upd a_rounds n (nI (i + 1)), a_path, a_pathTop, a_cache, a_runMisses, a_runHits, a_table, a_before, be')) (H2 : ¬ i < hi → Q (nI n ^^^ (-1)) (f_setBits, f_placeCount, f_made, f_height, f_pathCount, f_greatestLength, f_worstTime, f_bestTime, f_worstCount, f_programBound, f_endingCount, f_chosen, f_time, a_kind, a_first, a_second, a_low, a_high, a_parent, a_pathsOf, a_lengthOf, a_choicesOf, a_stack, a_worstPath, a_sureness, a_mostMisses, a_mostHits, a_leastMisses, a_endings, a_runsHolding, a_rounds, a_path, a_pathTop, a_cache, a_runMisses, a_runHits, sw_f (fun x => be' (n * 13 + x)) a_table 13, a_before, be')) : wpX_nextRoundInTables Q (f_setBits, f_placeCount, f_made, f_height, f_pathCount, f_greatestLength, f_worstTime, f_bestTime, f_worstCount, f_programBound, f_endingCount, f_chosen, f_time, a_kind, a_first, a_second, a_low, a_high, a_parent, a_pathsOf, a_lengthOf, a_choicesOf, a_stack, a_worstPath, a_sureness, a_mostMisses, a_mostHits, a_leastMisses, a_endings, a_runsHolding, a_rounds, a_path, a_pathTop, a_cache, a_runMisses, a_runHits, a_table, a_before, a_behind) (nI n) := by
  have c : (nI n).toNatClampNeg = n := nI_clamp (by omega)
  have ii : vp_in (nI n) 18 := vp_in_nI hn (by omega)
  refine And.intro ii ⟨ii, ?_⟩
  rw [c, hr, hl]
  rcases hbe with ⟨z, e⟩ | ⟨z, e⟩
  · subst e
    exact br_f (nI_nlt (by omega) (by omega)) (xrb_m hn (xt_20 hn hi4 hii hr hh H1 H2))
  · subst e
    exact br_t (nI_lt z (by omega)) (xt_20 hn hi4 hii hr hh H1 H2)
section
variable {Q : Int32 → SX → Prop} {n : Nat}
theorem xv_acc {f_setBits : Int32} {f_placeCount : Int32} {f_made : Int32} {f_height : Int32} {f_pathCount : Int32} {f_greatestLength : Int32} {f_worstTime : Int32} {f_bestTime : Int32} {f_worstCount : Int32} {f_programBound : Int32} {f_endingCount : Int32} {f_chosen : Int32} {f_time : Int32} {a_kind : Nat → Int32} {a_first : Nat → Int32} {a_second : Nat → Int32} {a_low : Nat → Int32} {a_high : Nat → Int32} {a_parent : Nat → Int32} {a_pathsOf : Nat → Int32} {a_lengthOf : Nat → Int32} {a_choicesOf : Nat → Int32} {a_stack : Nat → Int32} {a_worstPath : Nat → Int32} {a_sureness : Nat → Int32} {a_mostMisses : Nat → Int32} {a_mostHits : Nat → Int32} {a_leastMisses : Nat → Int32} {a_endings : Nat → Int64} {a_runsHolding : Nat → Int32} {a_rounds : Nat → Int32} {a_path : Nat → Int32} {a_pathTop : Nat → Int32} {a_cache : Nat → Int32} {a_runMisses : Nat → Int32} {a_runHits : Nat → Int32} {a_table : Nat → Int32} {a_before : Nat → Int32} {a_behind : Nat → Int32} {s m : Nat} (hn : n < 18) (hk : a_kind n = 0) (hm : m < 12) (hb : ∀ x y, x < 12 → y < 12 → ((nI x &&& f_setBits) = (nI y &&& f_setBits) ↔ x % s = y % s)) (hf : a_first n = nI m)
    (Hh : ¬ f_placeCount ≤ a_table m → Q (nI n ^^^ (-1)) (f_setBits, f_placeCount, f_made, f_height, f_pathCount, f_greatestLength, f_worstTime, f_bestTime, f_worstCount, f_programBound, f_endingCount, f_chosen, f_time, a_kind, a_first, a_second, a_low, a_high, a_parent, a_pathsOf, a_lengthOf, a_choicesOf, a_stack, a_worstPath, if a_sureness n = 2 then upd a_sureness n 1 else a_sureness, a_mostMisses, a_mostHits, a_leastMisses, a_endings, a_runsHolding, a_rounds, a_path, a_pathTop, a_cache, a_runMisses, a_runHits, upd (ac_a s m a_table) 12 (a_table 12 + 1), a_before, a_behind))
    (Hm : f_placeCount ≤ a_table m → Q (nI n ^^^ (-1)) (f_setBits, f_placeCount, f_made, f_height, f_pathCount, f_greatestLength, f_worstTime, f_bestTime, f_worstCount, f_programBound, f_endingCount, f_chosen, f_time, a_kind, a_first, a_second, a_low, a_high, a_parent, a_pathsOf, a_lengthOf, a_choicesOf, a_stack, a_worstPath, upd a_sureness n 0, a_mostMisses, a_mostHits, a_leastMisses, a_endings, a_runsHolding, a_rounds, a_path, a_pathTop, a_cache, a_runMisses, a_runHits, upd (ac_a s m a_table) 12 (a_table 12 + 10), a_before, a_behind)) : wpX_enterInTables Q (f_setBits, f_placeCount, f_made, f_height, f_pathCount, f_greatestLength, f_worstTime, f_bestTime, f_worstCount, f_programBound, f_endingCount, f_chosen, f_time, a_kind, a_first, a_second, a_low, a_high, a_parent, a_pathsOf, a_lengthOf, a_choicesOf, a_stack, a_worstPath, a_sureness, a_mostMisses, a_mostHits, a_leastMisses, a_endings, a_runsHolding, a_rounds, a_path, a_pathTop, a_cache, a_runMisses, a_runHits, a_table, a_before, a_behind) (nI n) := by
  have c : (nI n).toNatClampNeg = n := nI_clamp (by omega)
  have i : vp_in (nI n) 18 := vp_in_nI hn (by omega)
  refine And.intro i (nm_r (e' := 0) (by rw [c]; exact hk) (br_f (by decide) (br_f (by decide) (br_t rfl ?_))))
  exact xt_acc (s := s) hn hm hb hf Hh Hm
theorem xv_work {f_setBits : Int32} {f_placeCount : Int32} {f_made : Int32} {f_height : Int32} {f_pathCount : Int32} {f_greatestLength : Int32} {f_worstTime : Int32} {f_bestTime : Int32} {f_worstCount : Int32} {f_programBound : Int32} {f_endingCount : Int32} {f_chosen : Int32} {f_time : Int32} {a_kind : Nat → Int32} {a_first : Nat → Int32} {a_second : Nat → Int32} {a_low : Nat → Int32} {a_high : Nat → Int32} {a_parent : Nat → Int32} {a_pathsOf : Nat → Int32} {a_lengthOf : Nat → Int32} {a_choicesOf : Nat → Int32} {a_stack : Nat → Int32} {a_worstPath : Nat → Int32} {a_sureness : Nat → Int32} {a_mostMisses : Nat → Int32} {a_mostHits : Nat → Int32} {a_leastMisses : Nat → Int32} {a_endings : Nat → Int64} {a_runsHolding : Nat → Int32} {a_rounds : Nat → Int32} {a_path : Nat → Int32} {a_pathTop : Nat → Int32} {a_cache : Nat → Int32} {a_runMisses : Nat → Int32} {a_runHits : Nat → Int32} {a_table : Nat → Int32} {a_before : Nat → Int32} {a_behind : Nat → Int32} (hn : n < 18) (hk : a_kind n = 1) (H : Q (nI n ^^^ (-1)) (f_setBits, f_placeCount, f_made, f_height, f_pathCount, f_greatestLength, f_worstTime, f_bestTime, f_worstCount, f_programBound, f_endingCount, f_chosen, f_time, a_kind, a_first, a_second, a_low, a_high, a_parent, a_pathsOf, a_lengthOf, a_choicesOf, a_stack, a_worstPath, a_sureness, a_mostMisses, a_mostHits, a_leastMisses, a_endings, a_runsHolding, a_rounds, a_path, a_pathTop, a_cache, a_runMisses, a_runHits, upd a_table 12 (a_table 12 + a_first n), a_before, a_behind)) : wpX_enterInTables Q (f_setBits, f_placeCount, f_made, f_height, f_pathCount, f_greatestLength, f_worstTime, f_bestTime, f_worstCount, f_programBound, f_endingCount, f_chosen, f_time, a_kind, a_first, a_second, a_low, a_high, a_parent, a_pathsOf, a_lengthOf, a_choicesOf, a_stack, a_worstPath, a_sureness, a_mostMisses, a_mostHits, a_leastMisses, a_endings, a_runsHolding, a_rounds, a_path, a_pathTop, a_cache, a_runMisses, a_runHits, a_table, a_before, a_behind) (nI n) := by
  have c : (nI n).toNatClampNeg = n := nI_clamp (by omega)
  have i : vp_in (nI n) 18 := vp_in_nI hn (by omega)
  exact And.intro i (nm_r (e' := 1) (by rw [c]; exact hk) (br_f (by decide) (br_f (by decide) (br_f (by decide) (br_t rfl ⟨i, nm_r (e' := upd a_table 12 (a_table 12 + a_first n)) (by rw [c]) H⟩)))))
theorem xv_seq {f_setBits : Int32} {f_placeCount : Int32} {f_made : Int32} {f_height : Int32} {f_pathCount : Int32} {f_greatestLength : Int32} {f_worstTime : Int32} {f_bestTime : Int32} {f_worstCount : Int32} {f_programBound : Int32} {f_endingCount : Int32} {f_chosen : Int32} {f_time : Int32} {a_kind : Nat → Int32} {a_first : Nat → Int32} {a_second : Nat → Int32} {a_low : Nat → Int32} {a_high : Nat → Int32} {a_parent : Nat → Int32} {a_pathsOf : Nat → Int32} {a_lengthOf : Nat → Int32} {a_choicesOf : Nat → Int32} {a_stack : Nat → Int32} {a_worstPath : Nat → Int32} {a_sureness : Nat → Int32} {a_mostMisses : Nat → Int32} {a_mostHits : Nat → Int32} {a_leastMisses : Nat → Int32} {a_endings : Nat → Int64} {a_runsHolding : Nat → Int32} {a_rounds : Nat → Int32} {a_path : Nat → Int32} {a_pathTop : Nat → Int32} {a_cache : Nat → Int32} {a_runMisses : Nat → Int32} {a_runHits : Nat → Int32} {a_table : Nat → Int32} {a_before : Nat → Int32} {a_behind : Nat → Int32} (hn : n < 18) (hk : a_kind n = 2) (H : Q (a_first n) (f_setBits, f_placeCount, f_made, f_height, f_pathCount, f_greatestLength, f_worstTime, f_bestTime, f_worstCount, f_programBound, f_endingCount, f_chosen, f_time, a_kind, a_first, a_second, a_low, a_high, a_parent, a_pathsOf, a_lengthOf, a_choicesOf, a_stack, a_worstPath, a_sureness, a_mostMisses, a_mostHits, a_leastMisses, a_endings, a_runsHolding, a_rounds, a_path, a_pathTop, a_cache, a_runMisses, a_runHits, a_table, a_before, a_behind)) : wpX_enterInTables Q (f_setBits, f_placeCount, f_made, f_height, f_pathCount, f_greatestLength, f_worstTime, f_bestTime, f_worstCount, f_programBound, f_endingCount, f_chosen, f_time, a_kind, a_first, a_second, a_low, a_high, a_parent, a_pathsOf, a_lengthOf, a_choicesOf, a_stack, a_worstPath, a_sureness, a_mostMisses, a_mostHits, a_leastMisses, a_endings, a_runsHolding, a_rounds, a_path, a_pathTop, a_cache, a_runMisses, a_runHits, a_table, a_before, a_behind) (nI n) := by
  have c : (nI n).toNatClampNeg = n := nI_clamp (by omega)
  have i : vp_in (nI n) 18 := vp_in_nI hn (by omega)
  exact And.intro i (nm_r (e' := 2) (by rw [c]; exact hk) (br_f (by decide) (br_f (by decide) (br_f (by decide) (br_f (by decide) (br_t rfl ⟨i, by rw [c]; exact H⟩))))))
theorem xv_if {f_setBits : Int32} {f_placeCount : Int32} {f_made : Int32} {f_height : Int32} {f_pathCount : Int32} {f_greatestLength : Int32} {f_worstTime : Int32} {f_bestTime : Int32} {f_worstCount : Int32} {f_programBound : Int32} {f_endingCount : Int32} {f_chosen : Int32} {f_time : Int32} {a_kind : Nat → Int32} {a_first : Nat → Int32} {a_second : Nat → Int32} {a_low : Nat → Int32} {a_high : Nat → Int32} {a_parent : Nat → Int32} {a_pathsOf : Nat → Int32} {a_lengthOf : Nat → Int32} {a_choicesOf : Nat → Int32} {a_stack : Nat → Int32} {a_worstPath : Nat → Int32} {a_sureness : Nat → Int32} {a_mostMisses : Nat → Int32} {a_mostHits : Nat → Int32} {a_leastMisses : Nat → Int32} {a_endings : Nat → Int64} {a_runsHolding : Nat → Int32} {a_rounds : Nat → Int32} {a_path : Nat → Int32} {a_pathTop : Nat → Int32} {a_cache : Nat → Int32} {a_runMisses : Nat → Int32} {a_runHits : Nat → Int32} {a_table : Nat → Int32} {a_before : Nat → Int32} {a_behind : Nat → Int32} (hn : n < 18) (hk : a_kind n = 3) (H : Q (a_first n) (f_setBits, f_placeCount, f_made, f_height, f_pathCount, f_greatestLength, f_worstTime, f_bestTime, f_worstCount, f_programBound, f_endingCount, f_chosen, f_time, a_kind, a_first, a_second, a_low, a_high, a_parent, a_pathsOf, a_lengthOf, a_choicesOf, a_stack, a_worstPath, a_sureness, a_mostMisses, a_mostHits, a_leastMisses, a_endings, a_runsHolding, a_rounds, a_path, a_pathTop, a_cache, a_runMisses, a_runHits, a_table, sr_f (n * 13) a_table a_before 13, sr_f (n * 13) (fun _ => 0) a_behind 13)) : wpX_enterInTables Q (f_setBits, f_placeCount, f_made, f_height, f_pathCount, f_greatestLength, f_worstTime, f_bestTime, f_worstCount, f_programBound, f_endingCount, f_chosen, f_time, a_kind, a_first, a_second, a_low, a_high, a_parent, a_pathsOf, a_lengthOf, a_choicesOf, a_stack, a_worstPath, a_sureness, a_mostMisses, a_mostHits, a_leastMisses, a_endings, a_runsHolding, a_rounds, a_path, a_pathTop, a_cache, a_runMisses, a_runHits, a_table, a_before, a_behind) (nI n) := by
  have c : (nI n).toNatClampNeg = n := nI_clamp (by omega)
  have i : vp_in (nI n) 18 := vp_in_nI hn (by omega)
  exact And.intro i (nm_r (e' := 3) (by rw [c]; exact hk) (br_f (by decide) (br_f (by decide) (br_f (by decide) (br_f (by decide) (br_f (by decide) (br_t rfl (xkb_m hn (xcb_m hn ⟨i, by rw [c]; exact H⟩)))))))))
theorem xv_loop {f_setBits : Int32} {f_placeCount : Int32} {f_made : Int32} {f_height : Int32} {f_pathCount : Int32} {f_greatestLength : Int32} {f_worstTime : Int32} {f_bestTime : Int32} {f_worstCount : Int32} {f_programBound : Int32} {f_endingCount : Int32} {f_chosen : Int32} {f_time : Int32} {a_kind : Nat → Int32} {a_first : Nat → Int32} {a_second : Nat → Int32} {a_low : Nat → Int32} {a_high : Nat → Int32} {a_parent : Nat → Int32} {a_pathsOf : Nat → Int32} {a_lengthOf : Nat → Int32} {a_choicesOf : Nat → Int32} {a_stack : Nat → Int32} {a_worstPath : Nat → Int32} {a_sureness : Nat → Int32} {a_mostMisses : Nat → Int32} {a_mostHits : Nat → Int32} {a_leastMisses : Nat → Int32} {a_endings : Nat → Int64} {a_runsHolding : Nat → Int32} {a_rounds : Nat → Int32} {a_path : Nat → Int32} {a_pathTop : Nat → Int32} {a_cache : Nat → Int32} {a_runMisses : Nat → Int32} {a_runHits : Nat → Int32} {a_table : Nat → Int32} {a_before : Nat → Int32} {a_behind : Nat → Int32} {lo hi : Nat} {be' : Nat → Int32} (hn : n < 18) (hk : a_kind n = 4) (hl4 : lo ≤ 4) (hi4 : hi ≤ 4) (hl : a_low n = nI lo) (hh : a_high n = nI hi)
    (hbe : (lo ≤ 0 ∧ be' = sr_f (n * 13) (fun x => ix_x (a_table x) (sr_f (n * 13) (fun _ => 0) a_behind 13 (n * 13 + x))) (sr_f (n * 13) (fun _ => 0) a_behind 13) 13) ∨ (0 < lo ∧ be' = sr_f (n * 13) (fun _ => 0) a_behind 13))
    (H1 : 0 < hi → Q (a_first n) (f_setBits, f_placeCount, f_made, f_height, f_pathCount, f_greatestLength, f_worstTime, f_bestTime, f_worstCount, f_programBound, f_endingCount, f_chosen, f_time, a_kind, a_first, a_second, a_low, a_high, a_parent, a_pathsOf, a_lengthOf, a_choicesOf, a_stack, a_worstPath, a_sureness, a_mostMisses, a_mostHits, a_leastMisses, a_endings, a_runsHolding, upd (upd a_rounds n 0) n (nI (0 + 1)), a_path, a_pathTop, a_cache, a_runMisses, a_runHits, a_table, a_before, be')) (H2 : ¬ 0 < hi → Q (nI n ^^^ (-1)) (f_setBits, f_placeCount, f_made, f_height, f_pathCount, f_greatestLength, f_worstTime, f_bestTime, f_worstCount, f_programBound, f_endingCount, f_chosen, f_time, a_kind, a_first, a_second, a_low, a_high, a_parent, a_pathsOf, a_lengthOf, a_choicesOf, a_stack, a_worstPath, a_sureness, a_mostMisses, a_mostHits, a_leastMisses, a_endings, a_runsHolding, upd a_rounds n 0, a_path, a_pathTop, a_cache, a_runMisses, a_runHits, sw_f (fun x => be' (n * 13 + x)) a_table 13, a_before, be')) : wpX_enterInTables Q (f_setBits, f_placeCount, f_made, f_height, f_pathCount, f_greatestLength, f_worstTime, f_bestTime, f_worstCount, f_programBound, f_endingCount, f_chosen, f_time, a_kind, a_first, a_second, a_low, a_high, a_parent, a_pathsOf, a_lengthOf, a_choicesOf, a_stack, a_worstPath, a_sureness, a_mostMisses, a_mostHits, a_leastMisses, a_endings, a_runsHolding, a_rounds, a_path, a_pathTop, a_cache, a_runMisses, a_runHits, a_table, a_before, a_behind) (nI n) := by
  have c : (nI n).toNatClampNeg = n := nI_clamp (by omega)
  have i : vp_in (nI n) 18 := vp_in_nI hn (by omega)
  refine And.intro i (nm_r (e' := 4) (by rw [c]; exact hk) (br_f (by decide) (br_t (by decide) ⟨i, um_u c ?_⟩)))
  refine xcb_m hn ?_
  exact xt_next (i := 0) hn hl4 hi4 (by omega) us_s hl hh hbe H1 H2
theorem xw_22 {f_setBits : Int32} {f_placeCount : Int32} {f_made : Int32} {f_height : Int32} {f_pathCount : Int32} {f_greatestLength : Int32} {f_worstTime : Int32} {f_bestTime : Int32} {f_worstCount : Int32} {f_programBound : Int32} {f_endingCount : Int32} {f_chosen : Int32} {f_time : Int32} {a_kind : Nat → Int32} {a_first : Nat → Int32} {a_second : Nat → Int32} {a_low : Nat → Int32} {a_high : Nat → Int32} {a_parent : Nat → Int32} {a_pathsOf : Nat → Int32} {a_lengthOf : Nat → Int32} {a_choicesOf : Nat → Int32} {a_stack : Nat → Int32} {a_worstPath : Nat → Int32} {a_sureness : Nat → Int32} {a_mostMisses : Nat → Int32} {a_mostHits : Nat → Int32} {a_leastMisses : Nat → Int32} {a_endings : Nat → Int64} {a_runsHolding : Nat → Int32} {a_rounds : Nat → Int32} {a_path : Nat → Int32} {a_pathTop : Nat → Int32} {a_cache : Nat → Int32} {a_runMisses : Nat → Int32} {a_runHits : Nat → Int32} {a_table : Nat → Int32} {a_before : Nat → Int32} {a_behind : Nat → Int32} {p : Nat} {z0 : Int32} (hp : p < 18)
    (H1 : a_kind p = 2 → z0 = 0 → Q (nI p ^^^ (-1)) (f_setBits, f_placeCount, f_made, f_height, f_pathCount, f_greatestLength, f_worstTime, f_bestTime, f_worstCount, f_programBound, f_endingCount, f_chosen, f_time, a_kind, a_first, a_second, a_low, a_high, a_parent, a_pathsOf, a_lengthOf, a_choicesOf, a_stack, a_worstPath, a_sureness, a_mostMisses, a_mostHits, a_leastMisses, a_endings, a_runsHolding, a_rounds, a_path, a_pathTop, a_cache, a_runMisses, a_runHits, a_table, a_before, a_behind)) (H2 : a_kind p = 2 → ¬ z0 = 0 → Q (a_second p) (f_setBits, f_placeCount, f_made, f_height, f_pathCount, f_greatestLength, f_worstTime, f_bestTime, f_worstCount, f_programBound, f_endingCount, f_chosen, f_time, a_kind, a_first, a_second, a_low, a_high, a_parent, a_pathsOf, a_lengthOf, a_choicesOf, a_stack, a_worstPath, a_sureness, a_mostMisses, a_mostHits, a_leastMisses, a_endings, a_runsHolding, a_rounds, a_path, a_pathTop, a_cache, a_runMisses, a_runHits, a_table, a_before, a_behind))
    (H3 : a_kind p = 3 → z0 = 0 → Q (nI p ^^^ (-1)) (f_setBits, f_placeCount, f_made, f_height, f_pathCount, f_greatestLength, f_worstTime, f_bestTime, f_worstCount, f_programBound, f_endingCount, f_chosen, f_time, a_kind, a_first, a_second, a_low, a_high, a_parent, a_pathsOf, a_lengthOf, a_choicesOf, a_stack, a_worstPath, a_sureness, a_mostMisses, a_mostHits, a_leastMisses, a_endings, a_runsHolding, a_rounds, a_path, a_pathTop, a_cache, a_runMisses, a_runHits, sw_f (fun x => sr_f (p * 13) (fun x => ix_x (a_table x) (a_behind (p * 13 + x))) a_behind 13 (p * 13 + x)) a_table 13, a_before, sr_f (p * 13) (fun x => ix_x (a_table x) (a_behind (p * 13 + x))) a_behind 13))
    (H4 : a_kind p = 3 → ¬ z0 = 0 → Q (a_second p) (f_setBits, f_placeCount, f_made, f_height, f_pathCount, f_greatestLength, f_worstTime, f_bestTime, f_worstCount, f_programBound, f_endingCount, f_chosen, f_time, a_kind, a_first, a_second, a_low, a_high, a_parent, a_pathsOf, a_lengthOf, a_choicesOf, a_stack, a_worstPath, a_sureness, a_mostMisses, a_mostHits, a_leastMisses, a_endings, a_runsHolding, a_rounds, a_path, a_pathTop, a_cache, a_runMisses, a_runHits, sw_f (fun x => a_before (p * 13 + x)) a_table 13, a_before, sr_f (p * 13) (fun x => ix_x (a_table x) (a_behind (p * 13 + x))) a_behind 13))
    (H5 : ¬ a_kind p = 2 → ¬ a_kind p = 3 → wpX_nextRoundInTables Q (f_setBits, f_placeCount, f_made, f_height, f_pathCount, f_greatestLength, f_worstTime, f_bestTime, f_worstCount, f_programBound, f_endingCount, f_chosen, f_time, a_kind, a_first, a_second, a_low, a_high, a_parent, a_pathsOf, a_lengthOf, a_choicesOf, a_stack, a_worstPath, a_sureness, a_mostMisses, a_mostHits, a_leastMisses, a_endings, a_runsHolding, a_rounds, a_path, a_pathTop, a_cache, a_runMisses, a_runHits, a_table, a_before, a_behind) (nI p)) : wX_leaveInTables_22 Q (nI p) z0 f_setBits f_placeCount f_made f_height f_pathCount f_greatestLength f_worstTime f_bestTime f_worstCount f_programBound f_endingCount f_chosen f_time a_kind a_first a_second a_low a_high a_parent a_pathsOf a_lengthOf a_choicesOf a_stack a_worstPath a_sureness a_mostMisses a_mostHits a_leastMisses a_endings a_runsHolding a_rounds a_path a_pathTop a_cache a_runMisses a_runHits a_table a_before a_behind := by
  have c : (nI p).toNatClampNeg = p := nI_clamp (by omega)
  have i : vp_in (nI p) 18 := vp_in_nI hp (by omega)
  refine And.intro i (nm_r (e' := a_kind p) (by rw [c]) (br_c (fun k2 => br_c (fun z => H1 k2 z) (fun z => ⟨i, by rw [c]; exact H2 k2 z⟩)) (fun k2 => br_c (fun k3 => ?_) (fun k3 => H5 k2 k3))))
  refine xrb_m hp (br_c (fun z => ?_) (fun z => ?_))
  · exact xte_m hp (H3 k3 z)
  · exact xtf_m hp ⟨i, by rw [c]; exact H4 k3 z⟩
theorem xw_leave {f_setBits : Int32} {f_placeCount : Int32} {f_made : Int32} {f_height : Int32} {f_pathCount : Int32} {f_greatestLength : Int32} {f_worstTime : Int32} {f_bestTime : Int32} {f_worstCount : Int32} {f_programBound : Int32} {f_endingCount : Int32} {f_chosen : Int32} {f_time : Int32} {a_kind : Nat → Int32} {a_first : Nat → Int32} {a_second : Nat → Int32} {a_low : Nat → Int32} {a_high : Nat → Int32} {a_parent : Nat → Int32} {a_pathsOf : Nat → Int32} {a_lengthOf : Nat → Int32} {a_choicesOf : Nat → Int32} {a_stack : Nat → Int32} {a_worstPath : Nat → Int32} {a_sureness : Nat → Int32} {a_mostMisses : Nat → Int32} {a_mostHits : Nat → Int32} {a_leastMisses : Nat → Int32} {a_endings : Nat → Int64} {a_runsHolding : Nat → Int32} {a_rounds : Nat → Int32} {a_path : Nat → Int32} {a_pathTop : Nat → Int32} {a_cache : Nat → Int32} {a_runMisses : Nat → Int32} {a_runHits : Nat → Int32} {a_table : Nat → Int32} {a_before : Nat → Int32} {a_behind : Nat → Int32} {p : Nat} (hn : n < 18) (hp : p < 18) (hpar : a_parent n = nI p)
    (H1 : nI n = a_first p → wX_leaveInTables_22 Q (nI p) 1 f_setBits f_placeCount f_made f_height f_pathCount f_greatestLength f_worstTime f_bestTime f_worstCount f_programBound f_endingCount f_chosen f_time a_kind a_first a_second a_low a_high a_parent a_pathsOf a_lengthOf a_choicesOf a_stack a_worstPath a_sureness a_mostMisses a_mostHits a_leastMisses a_endings a_runsHolding a_rounds a_path a_pathTop a_cache a_runMisses a_runHits a_table a_before a_behind) (H2 : ¬ nI n = a_first p → wX_leaveInTables_22 Q (nI p) 0 f_setBits f_placeCount f_made f_height f_pathCount f_greatestLength f_worstTime f_bestTime f_worstCount f_programBound f_endingCount f_chosen f_time a_kind a_first a_second a_low a_high a_parent a_pathsOf a_lengthOf a_choicesOf a_stack a_worstPath a_sureness a_mostMisses a_mostHits a_leastMisses a_endings a_runsHolding a_rounds a_path a_pathTop a_cache a_runMisses a_runHits a_table a_before a_behind) : wpX_leaveInTables Q (f_setBits, f_placeCount, f_made, f_height, f_pathCount, f_greatestLength, f_worstTime, f_bestTime, f_worstCount, f_programBound, f_endingCount, f_chosen, f_time, a_kind, a_first, a_second, a_low, a_high, a_parent, a_pathsOf, a_lengthOf, a_choicesOf, a_stack, a_worstPath, a_sureness, a_mostMisses, a_mostHits, a_leastMisses, a_endings, a_runsHolding, a_rounds, a_path, a_pathTop, a_cache, a_runMisses, a_runHits, a_table, a_before, a_behind) (nI n) := by
  have c : (nI n).toNatClampNeg = n := nI_clamp (by omega)
  have i : vp_in (nI n) 18 := vp_in_nI hn (by omega)
  have cp : (nI p).toNatClampNeg = p := nI_clamp (by omega)
  have ip : vp_in (nI p) 18 := vp_in_nI hp (by omega)
  refine And.intro i (nm_r (e' := nI p) (by rw [c]; exact hpar) ⟨ip, ?_⟩)
  rw [cp]
  exact br_c H1 H2
end
end
section
/-! Y: the steps over the sure tables -/
theorem yks_l {h_sets : Int32} {h_places : Int32} {h_made : Int32} {h_depth : Int32} {h_size : Int32} {h_open : Int32} {h_time : Int32} {h_chosen : Int32} {h_kept : Int32} {h_worst : Int32} {h_best : Int32} {h_worstRuns : Int32} {h_worstChoices : Int32} {h_ends : Int32} {h_bound : Int32} {h_under : Int32} {h_back : Int32} {b_sorts : Nat → Int32} {b_lows : Nat → Int32} {b_highs : Nat → Int32} {b_firsts : Nat → Int32} {b_seconds : Nat → Int32} {b_stack : Nat → Int32} {b_pathsOf : Nat → Int32} {b_lengthOf : Nat → Int32} {b_choicesOf : Nat → Int32} {b_todo : Nat → Int32} {b_cache : Nat → Int32} {b_path : Nat → Int32} {b_tops : Nat → Int32} {b_missed : Nat → Int32} {b_struck : Nat → Int32} {b_worstPath : Nat → Int32} {b_mostMissed : Nat → Int32} {b_mostStruck : Nat → Int32} {b_leastMissed : Nat → Int32} {b_held : Nat → Int32} {b_contents : Nat → Int64} {b_ages : Nat → Int32} {b_phase : Nat → Int32} {b_node : Nat → Int32} {b_sum : Nat → Int32} {b_saved : Nat → Int32} {b_greatest : Nat → Int32} {b_met : Nat → Int32} {b_unsure : Nat → Int32} {post : SY → Prop} {j : Nat} (hj : j < 20) (H : post (h_sets, h_places, h_made, h_depth, h_size, h_open, h_time, h_chosen, h_kept, h_worst, h_best, h_worstRuns, h_worstChoices, h_ends, h_bound, h_under, h_back, b_sorts, b_lows, b_highs, b_firsts, b_seconds, b_stack, b_pathsOf, b_lengthOf, b_choicesOf, b_todo, b_cache, b_path, b_tops, b_missed, b_struck, b_worstPath, b_mostMissed, b_mostStruck, b_leastMissed, b_held, b_contents, b_ages, b_phase, b_node, b_sum, sr_f (12 * j) b_ages b_saved 12, b_greatest, b_met, b_unsure)) :
    ∀ d i, i + d = 12 → wY_keep__saved_3 post (nI j) 0 h_sets h_places h_made h_depth h_size h_open h_time h_chosen h_kept h_worst h_best h_worstRuns h_worstChoices h_ends h_bound h_under h_back (d + 1) (nI i) b_sorts b_lows b_highs b_firsts b_seconds b_stack b_pathsOf b_lengthOf b_choicesOf b_todo b_cache b_path b_tops b_missed b_struck b_worstPath b_mostMissed b_mostStruck b_leastMissed b_held b_contents b_ages b_phase b_node b_sum (sr_f (12 * j) b_ages b_saved i) b_greatest b_met b_unsure := by
  intro d
  induction d with
  | zero =>
    intro i hi
    have hi : i = 12 := by omega
    subst hi
    exact br_t (by decide) H
  | succ d ih =>
    intro i hi
    have c : (nI i).toNatClampNeg = i := nI_clamp (by omega)
    have ii : vp_in (nI i) 12 := vp_in_nI (by omega) (by omega)
    have rc := rj_c hj (show i < 12 by omega)
    have rr := rj_i hj (show i < 12 by omega)
    refine br_f (nI_ge (b := 12) (by omega) (by omega)) (br_t rfl ⟨ii, rr, ?_⟩)
    rw [rc, c, sr_u rfl]
    exact nm_e (nm_r (nI_1 i) (ih (i + 1) (by omega)))
theorem yks_m {h_sets : Int32} {h_places : Int32} {h_made : Int32} {h_depth : Int32} {h_size : Int32} {h_open : Int32} {h_time : Int32} {h_chosen : Int32} {h_kept : Int32} {h_worst : Int32} {h_best : Int32} {h_worstRuns : Int32} {h_worstChoices : Int32} {h_ends : Int32} {h_bound : Int32} {h_under : Int32} {h_back : Int32} {b_sorts : Nat → Int32} {b_lows : Nat → Int32} {b_highs : Nat → Int32} {b_firsts : Nat → Int32} {b_seconds : Nat → Int32} {b_stack : Nat → Int32} {b_pathsOf : Nat → Int32} {b_lengthOf : Nat → Int32} {b_choicesOf : Nat → Int32} {b_todo : Nat → Int32} {b_cache : Nat → Int32} {b_path : Nat → Int32} {b_tops : Nat → Int32} {b_missed : Nat → Int32} {b_struck : Nat → Int32} {b_worstPath : Nat → Int32} {b_mostMissed : Nat → Int32} {b_mostStruck : Nat → Int32} {b_leastMissed : Nat → Int32} {b_held : Nat → Int32} {b_contents : Nat → Int64} {b_ages : Nat → Int32} {b_phase : Nat → Int32} {b_node : Nat → Int32} {b_sum : Nat → Int32} {b_saved : Nat → Int32} {b_greatest : Nat → Int32} {b_met : Nat → Int32} {b_unsure : Nat → Int32} {post : SY → Prop} {j : Nat} (hj : j < 20) (H : post (h_sets, h_places, h_made, h_depth, h_size, h_open, h_time, h_chosen, h_kept, h_worst, h_best, h_worstRuns, h_worstChoices, h_ends, h_bound, h_under, h_back, b_sorts, b_lows, b_highs, b_firsts, b_seconds, b_stack, b_pathsOf, b_lengthOf, b_choicesOf, b_todo, b_cache, b_path, b_tops, b_missed, b_struck, b_worstPath, b_mostMissed, b_mostStruck, b_leastMissed, b_held, b_contents, b_ages, b_phase, b_node, b_sum, sr_f (12 * j) b_ages b_saved 12, b_greatest, b_met, b_unsure)) : wpY_keep__saved post (h_sets, h_places, h_made, h_depth, h_size, h_open, h_time, h_chosen, h_kept, h_worst, h_best, h_worstRuns, h_worstChoices, h_ends, h_bound, h_under, h_back, b_sorts, b_lows, b_highs, b_firsts, b_seconds, b_stack, b_pathsOf, b_lengthOf, b_choicesOf, b_todo, b_cache, b_path, b_tops, b_missed, b_struck, b_worstPath, b_mostMissed, b_mostStruck, b_leastMissed, b_held, b_contents, b_ages, b_phase, b_node, b_sum, b_saved, b_greatest, b_met, b_unsure) (nI j) 0 := by
  have L := yks_l (b_saved := b_saved) hj H 12 0 (by omega)
  rw [sr_0] at L
  exact Exists.intro 13 L
theorem ykg_l {h_sets : Int32} {h_places : Int32} {h_made : Int32} {h_depth : Int32} {h_size : Int32} {h_open : Int32} {h_time : Int32} {h_chosen : Int32} {h_kept : Int32} {h_worst : Int32} {h_best : Int32} {h_worstRuns : Int32} {h_worstChoices : Int32} {h_ends : Int32} {h_bound : Int32} {h_under : Int32} {h_back : Int32} {b_sorts : Nat → Int32} {b_lows : Nat → Int32} {b_highs : Nat → Int32} {b_firsts : Nat → Int32} {b_seconds : Nat → Int32} {b_stack : Nat → Int32} {b_pathsOf : Nat → Int32} {b_lengthOf : Nat → Int32} {b_choicesOf : Nat → Int32} {b_todo : Nat → Int32} {b_cache : Nat → Int32} {b_path : Nat → Int32} {b_tops : Nat → Int32} {b_missed : Nat → Int32} {b_struck : Nat → Int32} {b_worstPath : Nat → Int32} {b_mostMissed : Nat → Int32} {b_mostStruck : Nat → Int32} {b_leastMissed : Nat → Int32} {b_held : Nat → Int32} {b_contents : Nat → Int64} {b_ages : Nat → Int32} {b_phase : Nat → Int32} {b_node : Nat → Int32} {b_sum : Nat → Int32} {b_saved : Nat → Int32} {b_greatest : Nat → Int32} {b_met : Nat → Int32} {b_unsure : Nat → Int32} {post : SY → Prop} {j : Nat} (hj : j < 20) (H : post (h_sets, h_places, h_made, h_depth, h_size, h_open, h_time, h_chosen, h_kept, h_worst, h_best, h_worstRuns, h_worstChoices, h_ends, h_bound, h_under, h_back, b_sorts, b_lows, b_highs, b_firsts, b_seconds, b_stack, b_pathsOf, b_lengthOf, b_choicesOf, b_todo, b_cache, b_path, b_tops, b_missed, b_struck, b_worstPath, b_mostMissed, b_mostStruck, b_leastMissed, b_held, b_contents, b_ages, b_phase, b_node, b_sum, b_saved, sr_f (12 * j) b_ages b_greatest 12, b_met, b_unsure)) :
    ∀ d i, i + d = 12 → wY_keep__greatest_3 post (nI j) 0 h_sets h_places h_made h_depth h_size h_open h_time h_chosen h_kept h_worst h_best h_worstRuns h_worstChoices h_ends h_bound h_under h_back (d + 1) (nI i) b_sorts b_lows b_highs b_firsts b_seconds b_stack b_pathsOf b_lengthOf b_choicesOf b_todo b_cache b_path b_tops b_missed b_struck b_worstPath b_mostMissed b_mostStruck b_leastMissed b_held b_contents b_ages b_phase b_node b_sum b_saved (sr_f (12 * j) b_ages b_greatest i) b_met b_unsure := by
  intro d
  induction d with
  | zero =>
    intro i hi
    have hi : i = 12 := by omega
    subst hi
    exact br_t (by decide) H
  | succ d ih =>
    intro i hi
    have c : (nI i).toNatClampNeg = i := nI_clamp (by omega)
    have ii : vp_in (nI i) 12 := vp_in_nI (by omega) (by omega)
    have rc := rj_c hj (show i < 12 by omega)
    have rr := rj_i hj (show i < 12 by omega)
    refine br_f (nI_ge (b := 12) (by omega) (by omega)) (br_t rfl ⟨ii, rr, ?_⟩)
    rw [rc, c, sr_u rfl]
    exact nm_e (nm_r (nI_1 i) (ih (i + 1) (by omega)))
theorem ykg_m {h_sets : Int32} {h_places : Int32} {h_made : Int32} {h_depth : Int32} {h_size : Int32} {h_open : Int32} {h_time : Int32} {h_chosen : Int32} {h_kept : Int32} {h_worst : Int32} {h_best : Int32} {h_worstRuns : Int32} {h_worstChoices : Int32} {h_ends : Int32} {h_bound : Int32} {h_under : Int32} {h_back : Int32} {b_sorts : Nat → Int32} {b_lows : Nat → Int32} {b_highs : Nat → Int32} {b_firsts : Nat → Int32} {b_seconds : Nat → Int32} {b_stack : Nat → Int32} {b_pathsOf : Nat → Int32} {b_lengthOf : Nat → Int32} {b_choicesOf : Nat → Int32} {b_todo : Nat → Int32} {b_cache : Nat → Int32} {b_path : Nat → Int32} {b_tops : Nat → Int32} {b_missed : Nat → Int32} {b_struck : Nat → Int32} {b_worstPath : Nat → Int32} {b_mostMissed : Nat → Int32} {b_mostStruck : Nat → Int32} {b_leastMissed : Nat → Int32} {b_held : Nat → Int32} {b_contents : Nat → Int64} {b_ages : Nat → Int32} {b_phase : Nat → Int32} {b_node : Nat → Int32} {b_sum : Nat → Int32} {b_saved : Nat → Int32} {b_greatest : Nat → Int32} {b_met : Nat → Int32} {b_unsure : Nat → Int32} {post : SY → Prop} {j : Nat} (hj : j < 20) (H : post (h_sets, h_places, h_made, h_depth, h_size, h_open, h_time, h_chosen, h_kept, h_worst, h_best, h_worstRuns, h_worstChoices, h_ends, h_bound, h_under, h_back, b_sorts, b_lows, b_highs, b_firsts, b_seconds, b_stack, b_pathsOf, b_lengthOf, b_choicesOf, b_todo, b_cache, b_path, b_tops, b_missed, b_struck, b_worstPath, b_mostMissed, b_mostStruck, b_leastMissed, b_held, b_contents, b_ages, b_phase, b_node, b_sum, b_saved, sr_f (12 * j) b_ages b_greatest 12, b_met, b_unsure)) : wpY_keep__greatest post (h_sets, h_places, h_made, h_depth, h_size, h_open, h_time, h_chosen, h_kept, h_worst, h_best, h_worstRuns, h_worstChoices, h_ends, h_bound, h_under, h_back, b_sorts, b_lows, b_highs, b_firsts, b_seconds, b_stack, b_pathsOf, b_lengthOf, b_choicesOf, b_todo, b_cache, b_path, b_tops, b_missed, b_struck, b_worstPath, b_mostMissed, b_mostStruck, b_leastMissed, b_held, b_contents, b_ages, b_phase, b_node, b_sum, b_saved, b_greatest, b_met, b_unsure) (nI j) 0 := by
  have L := ykg_l (b_greatest := b_greatest) hj H 12 0 (by omega)
  rw [sr_0] at L
  exact Exists.intro 13 L
theorem ykh_l {h_sets : Int32} {h_places : Int32} {h_made : Int32} {h_depth : Int32} {h_size : Int32} {h_open : Int32} {h_time : Int32} {h_chosen : Int32} {h_kept : Int32} {h_worst : Int32} {h_best : Int32} {h_worstRuns : Int32} {h_worstChoices : Int32} {h_ends : Int32} {h_bound : Int32} {h_under : Int32} {h_back : Int32} {b_sorts : Nat → Int32} {b_lows : Nat → Int32} {b_highs : Nat → Int32} {b_firsts : Nat → Int32} {b_seconds : Nat → Int32} {b_stack : Nat → Int32} {b_pathsOf : Nat → Int32} {b_lengthOf : Nat → Int32} {b_choicesOf : Nat → Int32} {b_todo : Nat → Int32} {b_cache : Nat → Int32} {b_path : Nat → Int32} {b_tops : Nat → Int32} {b_missed : Nat → Int32} {b_struck : Nat → Int32} {b_worstPath : Nat → Int32} {b_mostMissed : Nat → Int32} {b_mostStruck : Nat → Int32} {b_leastMissed : Nat → Int32} {b_held : Nat → Int32} {b_contents : Nat → Int64} {b_ages : Nat → Int32} {b_phase : Nat → Int32} {b_node : Nat → Int32} {b_sum : Nat → Int32} {b_saved : Nat → Int32} {b_greatest : Nat → Int32} {b_met : Nat → Int32} {b_unsure : Nat → Int32} {post : SY → Prop} {j : Nat} (hj : j < 20) (H : post (h_sets, h_places, h_made, h_depth, h_size, h_open, h_time, h_chosen, h_kept, h_worst, h_best, h_worstRuns, h_worstChoices, h_ends, h_bound, h_under, h_back, b_sorts, b_lows, b_highs, b_firsts, b_seconds, b_stack, b_pathsOf, b_lengthOf, b_choicesOf, b_todo, b_cache, b_path, b_tops, b_missed, b_struck, b_worstPath, b_mostMissed, b_mostStruck, b_leastMissed, b_held, b_contents, b_ages, b_phase, b_node, b_sum, b_saved, sr_f (12 * j) (fun x => ix_x (b_greatest (12 * j + x)) (b_ages x)) b_greatest 12, b_met, b_unsure)) :
    ∀ d i, i + d = 12 → wY_keep__greatest_3 post (nI j) 1 h_sets h_places h_made h_depth h_size h_open h_time h_chosen h_kept h_worst h_best h_worstRuns h_worstChoices h_ends h_bound h_under h_back (d + 1) (nI i) b_sorts b_lows b_highs b_firsts b_seconds b_stack b_pathsOf b_lengthOf b_choicesOf b_todo b_cache b_path b_tops b_missed b_struck b_worstPath b_mostMissed b_mostStruck b_leastMissed b_held b_contents b_ages b_phase b_node b_sum b_saved (sr_f (12 * j) (fun x => ix_x (b_greatest (12 * j + x)) (b_ages x)) b_greatest i) b_met b_unsure := by
  intro d
  induction d with
  | zero =>
    intro i hi
    have hi : i = 12 := by omega
    subst hi
    exact br_t (by decide) H
  | succ d ih =>
    intro i hi
    have c : (nI i).toNatClampNeg = i := nI_clamp (by omega)
    have ii : vp_in (nI i) 12 := vp_in_nI (by omega) (by omega)
    have rc := rj_c hj (show i < 12 by omega)
    have rr := rj_i hj (show i < 12 by omega)
    refine br_f (nI_ge (b := 12) (by omega) (by omega)) (br_f (by decide) ⟨rr, ii, ?_⟩)
    rw [rc, c, sr_at]
    refine iy_M ⟨rr, ?_⟩
    rw [sr_u rfl]
    exact nm_e (nm_r (nI_1 i) (ih (i + 1) (by omega)))
theorem ykh_m {h_sets : Int32} {h_places : Int32} {h_made : Int32} {h_depth : Int32} {h_size : Int32} {h_open : Int32} {h_time : Int32} {h_chosen : Int32} {h_kept : Int32} {h_worst : Int32} {h_best : Int32} {h_worstRuns : Int32} {h_worstChoices : Int32} {h_ends : Int32} {h_bound : Int32} {h_under : Int32} {h_back : Int32} {b_sorts : Nat → Int32} {b_lows : Nat → Int32} {b_highs : Nat → Int32} {b_firsts : Nat → Int32} {b_seconds : Nat → Int32} {b_stack : Nat → Int32} {b_pathsOf : Nat → Int32} {b_lengthOf : Nat → Int32} {b_choicesOf : Nat → Int32} {b_todo : Nat → Int32} {b_cache : Nat → Int32} {b_path : Nat → Int32} {b_tops : Nat → Int32} {b_missed : Nat → Int32} {b_struck : Nat → Int32} {b_worstPath : Nat → Int32} {b_mostMissed : Nat → Int32} {b_mostStruck : Nat → Int32} {b_leastMissed : Nat → Int32} {b_held : Nat → Int32} {b_contents : Nat → Int64} {b_ages : Nat → Int32} {b_phase : Nat → Int32} {b_node : Nat → Int32} {b_sum : Nat → Int32} {b_saved : Nat → Int32} {b_greatest : Nat → Int32} {b_met : Nat → Int32} {b_unsure : Nat → Int32} {post : SY → Prop} {j : Nat} (hj : j < 20) (H : post (h_sets, h_places, h_made, h_depth, h_size, h_open, h_time, h_chosen, h_kept, h_worst, h_best, h_worstRuns, h_worstChoices, h_ends, h_bound, h_under, h_back, b_sorts, b_lows, b_highs, b_firsts, b_seconds, b_stack, b_pathsOf, b_lengthOf, b_choicesOf, b_todo, b_cache, b_path, b_tops, b_missed, b_struck, b_worstPath, b_mostMissed, b_mostStruck, b_leastMissed, b_held, b_contents, b_ages, b_phase, b_node, b_sum, b_saved, sr_f (12 * j) (fun x => ix_x (b_greatest (12 * j + x)) (b_ages x)) b_greatest 12, b_met, b_unsure)) : wpY_keep__greatest post (h_sets, h_places, h_made, h_depth, h_size, h_open, h_time, h_chosen, h_kept, h_worst, h_best, h_worstRuns, h_worstChoices, h_ends, h_bound, h_under, h_back, b_sorts, b_lows, b_highs, b_firsts, b_seconds, b_stack, b_pathsOf, b_lengthOf, b_choicesOf, b_todo, b_cache, b_path, b_tops, b_missed, b_struck, b_worstPath, b_mostMissed, b_mostStruck, b_leastMissed, b_held, b_contents, b_ages, b_phase, b_node, b_sum, b_saved, b_greatest, b_met, b_unsure) (nI j) 1 := by
  have L := ykh_l (b_greatest := b_greatest) hj H 12 0 (by omega)
  rw [sr_0] at L
  exact Exists.intro 13 L
theorem ytg_l {h_sets : Int32} {h_places : Int32} {h_made : Int32} {h_depth : Int32} {h_size : Int32} {h_open : Int32} {h_time : Int32} {h_chosen : Int32} {h_kept : Int32} {h_worst : Int32} {h_best : Int32} {h_worstRuns : Int32} {h_worstChoices : Int32} {h_ends : Int32} {h_bound : Int32} {h_under : Int32} {h_back : Int32} {b_sorts : Nat → Int32} {b_lows : Nat → Int32} {b_highs : Nat → Int32} {b_firsts : Nat → Int32} {b_seconds : Nat → Int32} {b_stack : Nat → Int32} {b_pathsOf : Nat → Int32} {b_lengthOf : Nat → Int32} {b_choicesOf : Nat → Int32} {b_todo : Nat → Int32} {b_cache : Nat → Int32} {b_path : Nat → Int32} {b_tops : Nat → Int32} {b_missed : Nat → Int32} {b_struck : Nat → Int32} {b_worstPath : Nat → Int32} {b_mostMissed : Nat → Int32} {b_mostStruck : Nat → Int32} {b_leastMissed : Nat → Int32} {b_held : Nat → Int32} {b_contents : Nat → Int64} {b_ages : Nat → Int32} {b_phase : Nat → Int32} {b_node : Nat → Int32} {b_sum : Nat → Int32} {b_saved : Nat → Int32} {b_greatest : Nat → Int32} {b_met : Nat → Int32} {b_unsure : Nat → Int32} {post : SY → Prop} {j : Nat} (hj : j < 20) (H : post (h_sets, h_places, h_made, h_depth, h_size, h_open, h_time, h_chosen, h_kept, h_worst, h_best, h_worstRuns, h_worstChoices, h_ends, h_bound, h_under, h_back, b_sorts, b_lows, b_highs, b_firsts, b_seconds, b_stack, b_pathsOf, b_lengthOf, b_choicesOf, b_todo, b_cache, b_path, b_tops, b_missed, b_struck, b_worstPath, b_mostMissed, b_mostStruck, b_leastMissed, b_held, b_contents, sw_f (fun x => b_greatest (12 * j + x)) b_ages 12, b_phase, b_node, b_sum, b_saved, b_greatest, b_met, b_unsure)) :
    ∀ d i, i + d = 12 → wY_takeBack__greatest_2 post (nI j) h_sets h_places h_made h_depth h_size h_open h_time h_chosen h_kept h_worst h_best h_worstRuns h_worstChoices h_ends h_bound h_under h_back (d + 1) (nI i) b_sorts b_lows b_highs b_firsts b_seconds b_stack b_pathsOf b_lengthOf b_choicesOf b_todo b_cache b_path b_tops b_missed b_struck b_worstPath b_mostMissed b_mostStruck b_leastMissed b_held b_contents (sw_f (fun x => b_greatest (12 * j + x)) b_ages i) b_phase b_node b_sum b_saved b_greatest b_met b_unsure := by
  intro d
  induction d with
  | zero =>
    intro i hi
    have hi : i = 12 := by omega
    subst hi
    exact br_t (by decide) H
  | succ d ih =>
    intro i hi
    have c : (nI i).toNatClampNeg = i := nI_clamp (by omega)
    have ii : vp_in (nI i) 12 := vp_in_nI (by omega) (by omega)
    have rc := rj_c hj (show i < 12 by omega)
    have rr := rj_i hj (show i < 12 by omega)
    refine br_f (nI_ge (b := 12) (by omega) (by omega)) ⟨rr, ii, ?_⟩
    rw [rc, c, sw_u rfl]
    exact nm_e (nm_r (nI_1 i) (ih (i + 1) (by omega)))
theorem ytg_m {h_sets : Int32} {h_places : Int32} {h_made : Int32} {h_depth : Int32} {h_size : Int32} {h_open : Int32} {h_time : Int32} {h_chosen : Int32} {h_kept : Int32} {h_worst : Int32} {h_best : Int32} {h_worstRuns : Int32} {h_worstChoices : Int32} {h_ends : Int32} {h_bound : Int32} {h_under : Int32} {h_back : Int32} {b_sorts : Nat → Int32} {b_lows : Nat → Int32} {b_highs : Nat → Int32} {b_firsts : Nat → Int32} {b_seconds : Nat → Int32} {b_stack : Nat → Int32} {b_pathsOf : Nat → Int32} {b_lengthOf : Nat → Int32} {b_choicesOf : Nat → Int32} {b_todo : Nat → Int32} {b_cache : Nat → Int32} {b_path : Nat → Int32} {b_tops : Nat → Int32} {b_missed : Nat → Int32} {b_struck : Nat → Int32} {b_worstPath : Nat → Int32} {b_mostMissed : Nat → Int32} {b_mostStruck : Nat → Int32} {b_leastMissed : Nat → Int32} {b_held : Nat → Int32} {b_contents : Nat → Int64} {b_ages : Nat → Int32} {b_phase : Nat → Int32} {b_node : Nat → Int32} {b_sum : Nat → Int32} {b_saved : Nat → Int32} {b_greatest : Nat → Int32} {b_met : Nat → Int32} {b_unsure : Nat → Int32} {post : SY → Prop} {j : Nat} (hj : j < 20) (H : post (h_sets, h_places, h_made, h_depth, h_size, h_open, h_time, h_chosen, h_kept, h_worst, h_best, h_worstRuns, h_worstChoices, h_ends, h_bound, h_under, h_back, b_sorts, b_lows, b_highs, b_firsts, b_seconds, b_stack, b_pathsOf, b_lengthOf, b_choicesOf, b_todo, b_cache, b_path, b_tops, b_missed, b_struck, b_worstPath, b_mostMissed, b_mostStruck, b_leastMissed, b_held, b_contents, sw_f (fun x => b_greatest (12 * j + x)) b_ages 12, b_phase, b_node, b_sum, b_saved, b_greatest, b_met, b_unsure)) : wpY_takeBack__greatest post (h_sets, h_places, h_made, h_depth, h_size, h_open, h_time, h_chosen, h_kept, h_worst, h_best, h_worstRuns, h_worstChoices, h_ends, h_bound, h_under, h_back, b_sorts, b_lows, b_highs, b_firsts, b_seconds, b_stack, b_pathsOf, b_lengthOf, b_choicesOf, b_todo, b_cache, b_path, b_tops, b_missed, b_struck, b_worstPath, b_mostMissed, b_mostStruck, b_leastMissed, b_held, b_contents, b_ages, b_phase, b_node, b_sum, b_saved, b_greatest, b_met, b_unsure) (nI j) := by
  have L := ytg_l (b_ages := b_ages) hj H 12 0 (by omega)
  rw [sw_0] at L
  exact Exists.intro 13 L
theorem yts_l {h_sets : Int32} {h_places : Int32} {h_made : Int32} {h_depth : Int32} {h_size : Int32} {h_open : Int32} {h_time : Int32} {h_chosen : Int32} {h_kept : Int32} {h_worst : Int32} {h_best : Int32} {h_worstRuns : Int32} {h_worstChoices : Int32} {h_ends : Int32} {h_bound : Int32} {h_under : Int32} {h_back : Int32} {b_sorts : Nat → Int32} {b_lows : Nat → Int32} {b_highs : Nat → Int32} {b_firsts : Nat → Int32} {b_seconds : Nat → Int32} {b_stack : Nat → Int32} {b_pathsOf : Nat → Int32} {b_lengthOf : Nat → Int32} {b_choicesOf : Nat → Int32} {b_todo : Nat → Int32} {b_cache : Nat → Int32} {b_path : Nat → Int32} {b_tops : Nat → Int32} {b_missed : Nat → Int32} {b_struck : Nat → Int32} {b_worstPath : Nat → Int32} {b_mostMissed : Nat → Int32} {b_mostStruck : Nat → Int32} {b_leastMissed : Nat → Int32} {b_held : Nat → Int32} {b_contents : Nat → Int64} {b_ages : Nat → Int32} {b_phase : Nat → Int32} {b_node : Nat → Int32} {b_sum : Nat → Int32} {b_saved : Nat → Int32} {b_greatest : Nat → Int32} {b_met : Nat → Int32} {b_unsure : Nat → Int32} {post : SY → Prop} {j : Nat} (hj : j < 20) (H : post (h_sets, h_places, h_made, h_depth, h_size, h_open, h_time, h_chosen, h_kept, h_worst, h_best, h_worstRuns, h_worstChoices, h_ends, h_bound, h_under, h_back, b_sorts, b_lows, b_highs, b_firsts, b_seconds, b_stack, b_pathsOf, b_lengthOf, b_choicesOf, b_todo, b_cache, b_path, b_tops, b_missed, b_struck, b_worstPath, b_mostMissed, b_mostStruck, b_leastMissed, b_held, b_contents, sw_f (fun x => b_saved (12 * j + x)) b_ages 12, b_phase, b_node, b_sum, b_saved, b_greatest, b_met, b_unsure)) :
    ∀ d i, i + d = 12 → wY_takeBack__saved_2 post (nI j) h_sets h_places h_made h_depth h_size h_open h_time h_chosen h_kept h_worst h_best h_worstRuns h_worstChoices h_ends h_bound h_under h_back (d + 1) (nI i) b_sorts b_lows b_highs b_firsts b_seconds b_stack b_pathsOf b_lengthOf b_choicesOf b_todo b_cache b_path b_tops b_missed b_struck b_worstPath b_mostMissed b_mostStruck b_leastMissed b_held b_contents (sw_f (fun x => b_saved (12 * j + x)) b_ages i) b_phase b_node b_sum b_saved b_greatest b_met b_unsure := by
  intro d
  induction d with
  | zero =>
    intro i hi
    have hi : i = 12 := by omega
    subst hi
    exact br_t (by decide) H
  | succ d ih =>
    intro i hi
    have c : (nI i).toNatClampNeg = i := nI_clamp (by omega)
    have ii : vp_in (nI i) 12 := vp_in_nI (by omega) (by omega)
    have rc := rj_c hj (show i < 12 by omega)
    have rr := rj_i hj (show i < 12 by omega)
    refine br_f (nI_ge (b := 12) (by omega) (by omega)) ⟨rr, ii, ?_⟩
    rw [rc, c, sw_u rfl]
    exact nm_e (nm_r (nI_1 i) (ih (i + 1) (by omega)))
theorem yts_m {h_sets : Int32} {h_places : Int32} {h_made : Int32} {h_depth : Int32} {h_size : Int32} {h_open : Int32} {h_time : Int32} {h_chosen : Int32} {h_kept : Int32} {h_worst : Int32} {h_best : Int32} {h_worstRuns : Int32} {h_worstChoices : Int32} {h_ends : Int32} {h_bound : Int32} {h_under : Int32} {h_back : Int32} {b_sorts : Nat → Int32} {b_lows : Nat → Int32} {b_highs : Nat → Int32} {b_firsts : Nat → Int32} {b_seconds : Nat → Int32} {b_stack : Nat → Int32} {b_pathsOf : Nat → Int32} {b_lengthOf : Nat → Int32} {b_choicesOf : Nat → Int32} {b_todo : Nat → Int32} {b_cache : Nat → Int32} {b_path : Nat → Int32} {b_tops : Nat → Int32} {b_missed : Nat → Int32} {b_struck : Nat → Int32} {b_worstPath : Nat → Int32} {b_mostMissed : Nat → Int32} {b_mostStruck : Nat → Int32} {b_leastMissed : Nat → Int32} {b_held : Nat → Int32} {b_contents : Nat → Int64} {b_ages : Nat → Int32} {b_phase : Nat → Int32} {b_node : Nat → Int32} {b_sum : Nat → Int32} {b_saved : Nat → Int32} {b_greatest : Nat → Int32} {b_met : Nat → Int32} {b_unsure : Nat → Int32} {post : SY → Prop} {j : Nat} (hj : j < 20) (H : post (h_sets, h_places, h_made, h_depth, h_size, h_open, h_time, h_chosen, h_kept, h_worst, h_best, h_worstRuns, h_worstChoices, h_ends, h_bound, h_under, h_back, b_sorts, b_lows, b_highs, b_firsts, b_seconds, b_stack, b_pathsOf, b_lengthOf, b_choicesOf, b_todo, b_cache, b_path, b_tops, b_missed, b_struck, b_worstPath, b_mostMissed, b_mostStruck, b_leastMissed, b_held, b_contents, sw_f (fun x => b_saved (12 * j + x)) b_ages 12, b_phase, b_node, b_sum, b_saved, b_greatest, b_met, b_unsure)) : wpY_takeBack__saved post (h_sets, h_places, h_made, h_depth, h_size, h_open, h_time, h_chosen, h_kept, h_worst, h_best, h_worstRuns, h_worstChoices, h_ends, h_bound, h_under, h_back, b_sorts, b_lows, b_highs, b_firsts, b_seconds, b_stack, b_pathsOf, b_lengthOf, b_choicesOf, b_todo, b_cache, b_path, b_tops, b_missed, b_struck, b_worstPath, b_mostMissed, b_mostStruck, b_leastMissed, b_held, b_contents, b_ages, b_phase, b_node, b_sum, b_saved, b_greatest, b_met, b_unsure) (nI j) := by
  have L := yts_l (b_ages := b_ages) hj H 12 0 (by omega)
  rw [sw_0] at L
  exact Exists.intro 13 L
theorem yj_loop {h_sets : Int32} {h_places : Int32} {h_made : Int32} {h_depth : Int32} {h_size : Int32} {h_open : Int32} {h_time : Int32} {h_chosen : Int32} {h_kept : Int32} {h_worst : Int32} {h_best : Int32} {h_worstRuns : Int32} {h_worstChoices : Int32} {h_ends : Int32} {h_bound : Int32} {h_under : Int32} {h_back : Int32} {b_sorts : Nat → Int32} {b_lows : Nat → Int32} {b_highs : Nat → Int32} {b_firsts : Nat → Int32} {b_seconds : Nat → Int32} {b_stack : Nat → Int32} {b_pathsOf : Nat → Int32} {b_lengthOf : Nat → Int32} {b_choicesOf : Nat → Int32} {b_todo : Nat → Int32} {b_cache : Nat → Int32} {b_path : Nat → Int32} {b_tops : Nat → Int32} {b_missed : Nat → Int32} {b_struck : Nat → Int32} {b_worstPath : Nat → Int32} {b_mostMissed : Nat → Int32} {b_mostStruck : Nat → Int32} {b_leastMissed : Nat → Int32} {b_held : Nat → Int32} {b_contents : Nat → Int64} {b_ages : Nat → Int32} {b_phase : Nat → Int32} {b_node : Nat → Int32} {b_sum : Nat → Int32} {b_saved : Nat → Int32} {b_greatest : Nat → Int32} {b_met : Nat → Int32} {b_unsure : Nat → Int32} {post : SY → Prop} {age : Int32} {s m n : Nat} (hm : m < 12) (hn : n < 18) (hs0 : 0 < s) (hs : s ≤ 4) (hsets : h_sets = nI s)
    (H1 : age = h_places → wY_judgeAccess_90 post age h_sets h_places h_made h_depth h_size h_open h_time h_chosen h_kept h_worst h_best h_worstRuns h_worstChoices h_ends h_bound h_under h_back b_sorts b_lows b_highs b_firsts b_seconds b_stack b_pathsOf b_lengthOf b_choicesOf b_todo b_cache b_path b_tops b_missed b_struck b_worstPath b_mostMissed b_mostStruck b_leastMissed b_held b_contents (upd (sw_f (ac_f s m age b_ages) b_ages 12) m 0) b_phase b_node b_sum b_saved b_greatest (upd b_met n 1) (upd b_unsure n 1)) (H2 : ¬ age = h_places → wY_judgeAccess_90 post age h_sets h_places h_made h_depth h_size h_open h_time h_chosen h_kept h_worst h_best h_worstRuns h_worstChoices h_ends h_bound h_under h_back b_sorts b_lows b_highs b_firsts b_seconds b_stack b_pathsOf b_lengthOf b_choicesOf b_todo b_cache b_path b_tops b_missed b_struck b_worstPath b_mostMissed b_mostStruck b_leastMissed b_held b_contents (upd (sw_f (ac_f s m age b_ages) b_ages 12) m 0) b_phase b_node b_sum b_saved b_greatest (upd b_met n 1) b_unsure) :
    ∀ d i, i + d = 12 → wY_judgeAccess_10 post (nI n) (nI m) age h_sets h_places h_made h_depth h_size h_open h_time h_chosen h_kept h_worst h_best h_worstRuns h_worstChoices h_ends h_bound h_under h_back (d + 1) (nI i) b_sorts b_lows b_highs b_firsts b_seconds b_stack b_pathsOf b_lengthOf b_choicesOf b_todo b_cache b_path b_tops b_missed b_struck b_worstPath b_mostMissed b_mostStruck b_leastMissed b_held b_contents (sw_f (ac_f s m age b_ages) b_ages i) b_phase b_node b_sum b_saved b_greatest b_met b_unsure := by
  have cm : (nI m).toNatClampNeg = m := nI_clamp (by omega)
  have im : vp_in (nI m) 12 := vp_in_nI (by omega) (by omega)
  have cn : (nI n).toNatClampNeg = n := nI_clamp (by omega)
  have iN : vp_in (nI n) 18 := vp_in_nI (by omega) (by omega)
  have s0 : ¬ h_sets = 0 := by rw [hsets]; exact nI_ne0 hs0 (by omega)
  have nb : vp_nar .boolean 1 = 1 := rfl
  intro d
  induction d with
  | zero =>
    intro i hi
    have hi : i = 12 := by omega
    subst hi
    refine br_t (by decide) ⟨im, um_u cm ⟨iN, ?_⟩⟩
    rw [cn, nb]
    refine nm_e (br_c (fun z => ⟨iN, ?_⟩) H2)
    exact nm_e (H1 z)
  | succ d ih =>
    intro i hi
    have c : (nI i).toNatClampNeg = i := nI_clamp (by omega)
    have ii : vp_in (nI i) 12 := vp_in_nI (by omega) (by omega)
    have h12 : ¬ (12 : Int32) ≤ nI i := nI_ge (b := 12) (by omega) (by omega)
    have hb : (nI i - nI i / h_sets * h_sets) = (nI m - nI m / h_sets * h_sets) ↔ i % s = m % s := by
      have := Nat.mod_lt i hs0
      have := Nat.mod_lt m hs0
      rw [hsets, pk_rem (by omega) hs0 (by omega), pk_rem (by omega) hs0 (by omega), nI_eq (by omega) (by omega)]
    by_cases e : i % s = m % s
    · have ev : sw_f (ac_f s m age b_ages) b_ages i (nI i).toNatClampNeg = b_ages i := by rw [c, sw_at]
      by_cases l : age ≤ b_ages i
      · have k : ac_f s m age b_ages i = b_ages i := by
          unfold ac_f; rw [if_neg (fun z => Int32.not_lt.mpr l z.2)]
        refine br_f h12 ⟨s0, s0, br_t (hb.mpr e) ⟨ii, br_t (by rw [ev]; exact l) (nm_r (nI_1 i) ?_)⟩⟩
        rw [sw_k k]
        exact ih (i + 1) (by omega)
      · have k : sw_f (ac_f s m age b_ages) b_ages i (nI i).toNatClampNeg + 1 = ac_f s m age b_ages i := by
          rw [ev]; unfold ac_f; rw [if_pos ⟨e, Int32.not_le.mp l⟩]
        refine br_f h12 ⟨s0, s0, br_t (hb.mpr e) ⟨ii, br_f (by rw [ev]; exact l) ⟨ii, ii, um_u c (nm_r (nI_1 i) ?_)⟩⟩⟩
        rw [sw_u k]
        exact ih (i + 1) (by omega)
    · have k : ac_f s m age b_ages i = b_ages i := by
        unfold ac_f; rw [if_neg (fun z => e z.1)]
      refine br_f h12 ⟨s0, s0, br_f (fun z => e (hb.mp z)) (nm_r (nI_1 i) ?_)⟩
      rw [sw_k k]
      exact ih (i + 1) (by omega)
theorem yj_acc {h_sets : Int32} {h_places : Int32} {h_made : Int32} {h_depth : Int32} {h_size : Int32} {h_open : Int32} {h_time : Int32} {h_chosen : Int32} {h_kept : Int32} {h_worst : Int32} {h_best : Int32} {h_worstRuns : Int32} {h_worstChoices : Int32} {h_ends : Int32} {h_bound : Int32} {h_under : Int32} {h_back : Int32} {b_sorts : Nat → Int32} {b_lows : Nat → Int32} {b_highs : Nat → Int32} {b_firsts : Nat → Int32} {b_seconds : Nat → Int32} {b_stack : Nat → Int32} {b_pathsOf : Nat → Int32} {b_lengthOf : Nat → Int32} {b_choicesOf : Nat → Int32} {b_todo : Nat → Int32} {b_cache : Nat → Int32} {b_path : Nat → Int32} {b_tops : Nat → Int32} {b_missed : Nat → Int32} {b_struck : Nat → Int32} {b_worstPath : Nat → Int32} {b_mostMissed : Nat → Int32} {b_mostStruck : Nat → Int32} {b_leastMissed : Nat → Int32} {b_held : Nat → Int32} {b_contents : Nat → Int64} {b_ages : Nat → Int32} {b_phase : Nat → Int32} {b_node : Nat → Int32} {b_sum : Nat → Int32} {b_saved : Nat → Int32} {b_greatest : Nat → Int32} {b_met : Nat → Int32} {b_unsure : Nat → Int32} {post : SY → Prop} {s m n a w : Nat} (hm : m < 12) (hn : n < 18) (hs0 : 0 < s) (hs : s ≤ 4) (hw : w ≤ 4) (hsets : h_sets = nI s) (hpl : h_places = nI w) (ha : b_ages m = nI a) (haw : a ≤ w)
    (Hh : a < w → post (h_sets, h_places, h_made, h_depth, h_size, h_open, h_time, h_chosen, h_kept, h_worst, h_best, h_worstRuns, h_worstChoices, h_ends, h_bound, h_under - 1, 1, b_sorts, b_lows, b_highs, b_firsts, b_seconds, b_stack, b_pathsOf, b_lengthOf, b_choicesOf, b_todo, b_cache, b_path, b_tops, b_missed, b_struck, b_worstPath, b_mostMissed, b_mostStruck, b_leastMissed, b_held, b_contents, ac_a s m b_ages, b_phase, b_node, b_sum, b_saved, b_greatest, upd b_met n 1, b_unsure)) (Hm : ¬ a < w → post (h_sets, h_places, h_made, h_depth, h_size, h_open, h_time, h_chosen, h_kept, h_worst, h_best, h_worstRuns, h_worstChoices, h_ends, h_bound, h_under - 1, 10, b_sorts, b_lows, b_highs, b_firsts, b_seconds, b_stack, b_pathsOf, b_lengthOf, b_choicesOf, b_todo, b_cache, b_path, b_tops, b_missed, b_struck, b_worstPath, b_mostMissed, b_mostStruck, b_leastMissed, b_held, b_contents, ac_a s m b_ages, b_phase, b_node, b_sum, b_saved, b_greatest, upd b_met n 1, upd b_unsure n 1)) : wpY_judgeAccess post (h_sets, h_places, h_made, h_depth, h_size, h_open, h_time, h_chosen, h_kept, h_worst, h_best, h_worstRuns, h_worstChoices, h_ends, h_bound, h_under, h_back, b_sorts, b_lows, b_highs, b_firsts, b_seconds, b_stack, b_pathsOf, b_lengthOf, b_choicesOf, b_todo, b_cache, b_path, b_tops, b_missed, b_struck, b_worstPath, b_mostMissed, b_mostStruck, b_leastMissed, b_held, b_contents, b_ages, b_phase, b_node, b_sum, b_saved, b_greatest, b_met, b_unsure) (nI n) (nI m) := by
  have cm : (nI m).toNatClampNeg = m := nI_clamp (by omega)
  have im : vp_in (nI m) 12 := vp_in_nI (by omega) (by omega)
  refine And.intro im (nm_r (congrArg b_ages cm) ⟨13, ?_⟩)
  have J1 : b_ages m = h_places → wY_judgeAccess_90 post (b_ages m) h_sets h_places h_made h_depth h_size h_open h_time h_chosen h_kept h_worst h_best h_worstRuns h_worstChoices h_ends h_bound h_under h_back b_sorts b_lows b_highs b_firsts b_seconds b_stack b_pathsOf b_lengthOf b_choicesOf b_todo b_cache b_path b_tops b_missed b_struck b_worstPath b_mostMissed b_mostStruck b_leastMissed b_held b_contents (upd (sw_f (ac_f s m (b_ages m) b_ages) b_ages 12) m 0) b_phase b_node b_sum b_saved b_greatest (upd b_met n 1) (upd b_unsure n 1) := by
    intro e
    rw [ha, hpl, nI_eq (by omega) (by omega)] at e
    have z : ¬ a < w := by omega
    exact br_t (by rw [ha, hpl]; exact nI_le (by omega) (by omega)) (nm_e (Hm z))
  have J2 : ¬ b_ages m = h_places → wY_judgeAccess_90 post (b_ages m) h_sets h_places h_made h_depth h_size h_open h_time h_chosen h_kept h_worst h_best h_worstRuns h_worstChoices h_ends h_bound h_under h_back b_sorts b_lows b_highs b_firsts b_seconds b_stack b_pathsOf b_lengthOf b_choicesOf b_todo b_cache b_path b_tops b_missed b_struck b_worstPath b_mostMissed b_mostStruck b_leastMissed b_held b_contents (upd (sw_f (ac_f s m (b_ages m) b_ages) b_ages 12) m 0) b_phase b_node b_sum b_saved b_greatest (upd b_met n 1) b_unsure := by
    intro e
    rw [ha, hpl, nI_eq (by omega) (by omega)] at e
    have z : a < w := by omega
    exact br_f (by rw [ha, hpl]; exact nI_ge z (by omega)) (nm_e (Hh z))
  have L := yj_loop (b_ages := b_ages) hm hn hs0 hs hsets J1 J2 12 0 (by omega)
  rw [sw_0] at L
  exact L
theorem ye_enter {h_sets : Int32} {h_places : Int32} {h_made : Int32} {h_depth : Int32} {h_size : Int32} {h_open : Int32} {h_time : Int32} {h_chosen : Int32} {h_kept : Int32} {h_worst : Int32} {h_best : Int32} {h_worstRuns : Int32} {h_worstChoices : Int32} {h_ends : Int32} {h_bound : Int32} {h_under : Int32} {h_back : Int32} {b_sorts : Nat → Int32} {b_lows : Nat → Int32} {b_highs : Nat → Int32} {b_firsts : Nat → Int32} {b_seconds : Nat → Int32} {b_stack : Nat → Int32} {b_pathsOf : Nat → Int32} {b_lengthOf : Nat → Int32} {b_choicesOf : Nat → Int32} {b_todo : Nat → Int32} {b_cache : Nat → Int32} {b_path : Nat → Int32} {b_tops : Nat → Int32} {b_missed : Nat → Int32} {b_struck : Nat → Int32} {b_worstPath : Nat → Int32} {b_mostMissed : Nat → Int32} {b_mostStruck : Nat → Int32} {b_leastMissed : Nat → Int32} {b_held : Nat → Int32} {b_contents : Nat → Int64} {b_ages : Nat → Int32} {b_phase : Nat → Int32} {b_node : Nat → Int32} {b_sum : Nat → Int32} {b_saved : Nat → Int32} {b_greatest : Nat → Int32} {b_met : Nat → Int32} {b_unsure : Nat → Int32} {post : SY → Prop} {j : Nat} {x : Int32} (hj : j < 20) (H : post (h_sets, h_places, h_made, h_depth, h_size, h_open, h_time, h_chosen, h_kept, h_worst, h_best, h_worstRuns, h_worstChoices, h_ends, h_bound, nI (j + 1), h_back, b_sorts, b_lows, b_highs, b_firsts, b_seconds, b_stack, b_pathsOf, b_lengthOf, b_choicesOf, b_todo, b_cache, b_path, b_tops, b_missed, b_struck, b_worstPath, b_mostMissed, b_mostStruck, b_leastMissed, b_held, b_contents, b_ages, upd b_phase j 0, upd b_node j x, b_sum, b_saved, b_greatest, b_met, b_unsure)) : wpY_enter post (h_sets, h_places, h_made, h_depth, h_size, h_open, h_time, h_chosen, h_kept, h_worst, h_best, h_worstRuns, h_worstChoices, h_ends, h_bound, nI j, h_back, b_sorts, b_lows, b_highs, b_firsts, b_seconds, b_stack, b_pathsOf, b_lengthOf, b_choicesOf, b_todo, b_cache, b_path, b_tops, b_missed, b_struck, b_worstPath, b_mostMissed, b_mostStruck, b_leastMissed, b_held, b_contents, b_ages, b_phase, b_node, b_sum, b_saved, b_greatest, b_met, b_unsure) x := by
  have c : (nI j).toNatClampNeg = j := nI_clamp (by omega)
  have i : vp_in (nI j) 20 := vp_in_nI hj (by omega)
  exact And.intro i (um_u c ⟨i, um_u c (nm_r (nI_1 j) H)⟩)
section
variable {post : SY → Prop} {n j : Nat}
theorem yg_seq {h_sets : Int32} {h_places : Int32} {h_made : Int32} {h_depth : Int32} {h_size : Int32} {h_open : Int32} {h_time : Int32} {h_chosen : Int32} {h_kept : Int32} {h_worst : Int32} {h_best : Int32} {h_worstRuns : Int32} {h_worstChoices : Int32} {h_ends : Int32} {h_bound : Int32} {h_under : Int32} {h_back : Int32} {b_sorts : Nat → Int32} {b_lows : Nat → Int32} {b_highs : Nat → Int32} {b_firsts : Nat → Int32} {b_seconds : Nat → Int32} {b_stack : Nat → Int32} {b_pathsOf : Nat → Int32} {b_lengthOf : Nat → Int32} {b_choicesOf : Nat → Int32} {b_todo : Nat → Int32} {b_cache : Nat → Int32} {b_path : Nat → Int32} {b_tops : Nat → Int32} {b_missed : Nat → Int32} {b_struck : Nat → Int32} {b_worstPath : Nat → Int32} {b_mostMissed : Nat → Int32} {b_mostStruck : Nat → Int32} {b_leastMissed : Nat → Int32} {b_held : Nat → Int32} {b_contents : Nat → Int64} {b_ages : Nat → Int32} {b_phase : Nat → Int32} {b_node : Nat → Int32} {b_sum : Nat → Int32} {b_saved : Nat → Int32} {b_greatest : Nat → Int32} {b_met : Nat → Int32} {b_unsure : Nat → Int32} (hn : n < 18) (hj : j + 1 < 20)
    (H0 : b_phase j = 0 → post (h_sets, h_places, h_made, h_depth, h_size, h_open, h_time, h_chosen, h_kept, h_worst, h_best, h_worstRuns, h_worstChoices, h_ends, h_bound, nI (j + 1 + 1), h_back, b_sorts, b_lows, b_highs, b_firsts, b_seconds, b_stack, b_pathsOf, b_lengthOf, b_choicesOf, b_todo, b_cache, b_path, b_tops, b_missed, b_struck, b_worstPath, b_mostMissed, b_mostStruck, b_leastMissed, b_held, b_contents, b_ages, upd (upd b_phase j (b_phase j + 1)) (j + 1) 0, upd b_node (j + 1) (b_firsts n), b_sum, b_saved, b_greatest, b_met, b_unsure))
    (H1 : b_phase j = 1 → post (h_sets, h_places, h_made, h_depth, h_size, h_open, h_time, h_chosen, h_kept, h_worst, h_best, h_worstRuns, h_worstChoices, h_ends, h_bound, nI (j + 1 + 1), h_back, b_sorts, b_lows, b_highs, b_firsts, b_seconds, b_stack, b_pathsOf, b_lengthOf, b_choicesOf, b_todo, b_cache, b_path, b_tops, b_missed, b_struck, b_worstPath, b_mostMissed, b_mostStruck, b_leastMissed, b_held, b_contents, b_ages, upd (upd b_phase j (b_phase j + 1)) (j + 1) 0, upd b_node (j + 1) (b_seconds n), upd b_sum j h_back, b_saved, b_greatest, b_met, b_unsure))
    (H2 : ¬ b_phase j = 0 → ¬ b_phase j = 1 → post (h_sets, h_places, h_made, h_depth, h_size, h_open, h_time, h_chosen, h_kept, h_worst, h_best, h_worstRuns, h_worstChoices, h_ends, h_bound, nI j, b_sum j + h_back, b_sorts, b_lows, b_highs, b_firsts, b_seconds, b_stack, b_pathsOf, b_lengthOf, b_choicesOf, b_todo, b_cache, b_path, b_tops, b_missed, b_struck, b_worstPath, b_mostMissed, b_mostStruck, b_leastMissed, b_held, b_contents, b_ages, upd b_phase j (b_phase j + 1), b_node, b_sum, b_saved, b_greatest, b_met, b_unsure)) : wpY_goOnSeq post (h_sets, h_places, h_made, h_depth, h_size, h_open, h_time, h_chosen, h_kept, h_worst, h_best, h_worstRuns, h_worstChoices, h_ends, h_bound, nI (j + 1), h_back, b_sorts, b_lows, b_highs, b_firsts, b_seconds, b_stack, b_pathsOf, b_lengthOf, b_choicesOf, b_todo, b_cache, b_path, b_tops, b_missed, b_struck, b_worstPath, b_mostMissed, b_mostStruck, b_leastMissed, b_held, b_contents, b_ages, b_phase, b_node, b_sum, b_saved, b_greatest, b_met, b_unsure) (nI n) := by
  have c : (nI n).toNatClampNeg = n := nI_clamp (by omega)
  have i : vp_in (nI n) 36 := vp_in_nI (by omega) (by omega)
  have cj : (nI j).toNatClampNeg = j := nI_clamp (by omega)
  have ij : vp_in (nI j) 20 := vp_in_nI (by omega) (by omega)
  refine nm_r (nI_pred j) ⟨ij, nm_r (e' := b_phase j) (by rw [cj]) ⟨ij, um_u cj (br_c (fun z => ⟨i, ?_⟩) (fun z => br_c (fun y => ⟨ij, um_u cj ⟨i, ?_⟩⟩) (fun y => ⟨ij, ?_⟩)))⟩⟩
  · rw [c]; exact ye_enter (h_under := h_under) hj (H0 z)
  · rw [c]; exact ye_enter (h_under := h_under) hj (H1 y)
  · rw [cj]; exact nm_r (nI_pred j) (H2 z y)
theorem yg_if {h_sets : Int32} {h_places : Int32} {h_made : Int32} {h_depth : Int32} {h_size : Int32} {h_open : Int32} {h_time : Int32} {h_chosen : Int32} {h_kept : Int32} {h_worst : Int32} {h_best : Int32} {h_worstRuns : Int32} {h_worstChoices : Int32} {h_ends : Int32} {h_bound : Int32} {h_under : Int32} {h_back : Int32} {b_sorts : Nat → Int32} {b_lows : Nat → Int32} {b_highs : Nat → Int32} {b_firsts : Nat → Int32} {b_seconds : Nat → Int32} {b_stack : Nat → Int32} {b_pathsOf : Nat → Int32} {b_lengthOf : Nat → Int32} {b_choicesOf : Nat → Int32} {b_todo : Nat → Int32} {b_cache : Nat → Int32} {b_path : Nat → Int32} {b_tops : Nat → Int32} {b_missed : Nat → Int32} {b_struck : Nat → Int32} {b_worstPath : Nat → Int32} {b_mostMissed : Nat → Int32} {b_mostStruck : Nat → Int32} {b_leastMissed : Nat → Int32} {b_held : Nat → Int32} {b_contents : Nat → Int64} {b_ages : Nat → Int32} {b_phase : Nat → Int32} {b_node : Nat → Int32} {b_sum : Nat → Int32} {b_saved : Nat → Int32} {b_greatest : Nat → Int32} {b_met : Nat → Int32} {b_unsure : Nat → Int32} (hn : n < 18) (hj : j + 1 < 20)
    (H0 : b_phase j = 0 → post (h_sets, h_places, h_made, h_depth, h_size, h_open, h_time, h_chosen, h_kept, h_worst, h_best, h_worstRuns, h_worstChoices, h_ends, h_bound, nI (j + 1 + 1), h_back, b_sorts, b_lows, b_highs, b_firsts, b_seconds, b_stack, b_pathsOf, b_lengthOf, b_choicesOf, b_todo, b_cache, b_path, b_tops, b_missed, b_struck, b_worstPath, b_mostMissed, b_mostStruck, b_leastMissed, b_held, b_contents, b_ages, upd (upd b_phase j (b_phase j + 1)) (j + 1) 0, upd b_node (j + 1) (b_firsts n), b_sum, sr_f (12 * j) b_ages b_saved 12, b_greatest, b_met, b_unsure))
    (H1 : b_phase j = 1 → post (h_sets, h_places, h_made, h_depth, h_size, h_open, h_time, h_chosen, h_kept, h_worst, h_best, h_worstRuns, h_worstChoices, h_ends, h_bound, nI (j + 1 + 1), h_back, b_sorts, b_lows, b_highs, b_firsts, b_seconds, b_stack, b_pathsOf, b_lengthOf, b_choicesOf, b_todo, b_cache, b_path, b_tops, b_missed, b_struck, b_worstPath, b_mostMissed, b_mostStruck, b_leastMissed, b_held, b_contents, sw_f (fun x => b_saved (12 * j + x)) b_ages 12, upd (upd b_phase j (b_phase j + 1)) (j + 1) 0, upd b_node (j + 1) (b_seconds n), upd b_sum j h_back, b_saved, sr_f (12 * j) b_ages b_greatest 12, b_met, b_unsure))
    (H2 : ¬ b_phase j = 0 → ¬ b_phase j = 1 → post (h_sets, h_places, h_made, h_depth, h_size, h_open, h_time, h_chosen, h_kept, h_worst, h_best, h_worstRuns, h_worstChoices, h_ends, h_bound, nI j, ix_x (b_sum j) h_back, b_sorts, b_lows, b_highs, b_firsts, b_seconds, b_stack, b_pathsOf, b_lengthOf, b_choicesOf, b_todo, b_cache, b_path, b_tops, b_missed, b_struck, b_worstPath, b_mostMissed, b_mostStruck, b_leastMissed, b_held, b_contents, sw_f (fun x => sr_f (12 * j) (fun x => ix_x (b_greatest (12 * j + x)) (b_ages x)) b_greatest 12 (12 * j + x)) b_ages 12, upd b_phase j (b_phase j + 1), b_node, b_sum, b_saved, sr_f (12 * j) (fun x => ix_x (b_greatest (12 * j + x)) (b_ages x)) b_greatest 12, b_met, b_unsure)) : wpY_goOnIf post (h_sets, h_places, h_made, h_depth, h_size, h_open, h_time, h_chosen, h_kept, h_worst, h_best, h_worstRuns, h_worstChoices, h_ends, h_bound, nI (j + 1), h_back, b_sorts, b_lows, b_highs, b_firsts, b_seconds, b_stack, b_pathsOf, b_lengthOf, b_choicesOf, b_todo, b_cache, b_path, b_tops, b_missed, b_struck, b_worstPath, b_mostMissed, b_mostStruck, b_leastMissed, b_held, b_contents, b_ages, b_phase, b_node, b_sum, b_saved, b_greatest, b_met, b_unsure) (nI n) := by
  have c : (nI n).toNatClampNeg = n := nI_clamp (by omega)
  have i : vp_in (nI n) 36 := vp_in_nI (by omega) (by omega)
  have cj : (nI j).toNatClampNeg = j := nI_clamp (by omega)
  have ij : vp_in (nI j) 20 := vp_in_nI (by omega) (by omega)
  refine nm_r (nI_pred j) ⟨ij, nm_r (e' := b_phase j) (by rw [cj]) ⟨ij, um_u cj (br_c (fun z => ?_) (fun z => br_c (fun y => ⟨ij, um_u cj ?_⟩) (fun y => ?_)))⟩⟩
  · refine yks_m (by omega) ⟨i, ?_⟩
    rw [c]; exact ye_enter (h_under := h_under) hj (H0 z)
  · refine ykg_m (by omega) (yts_m (by omega) ⟨i, ?_⟩)
    rw [c]; exact ye_enter (h_under := h_under) hj (H1 y)
  · refine ykh_m (by omega) (ytg_m (by omega) ⟨ij, ?_⟩)
    rw [cj]
    exact iy_M (nm_r (nI_pred j) (H2 z y))
theorem yg_82 {h_sets : Int32} {h_places : Int32} {h_made : Int32} {h_depth : Int32} {h_size : Int32} {h_open : Int32} {h_time : Int32} {h_chosen : Int32} {h_kept : Int32} {h_worst : Int32} {h_best : Int32} {h_worstRuns : Int32} {h_worstChoices : Int32} {h_ends : Int32} {h_bound : Int32} {h_under : Int32} {h_back : Int32} {b_sorts : Nat → Int32} {b_lows : Nat → Int32} {b_highs : Nat → Int32} {b_firsts : Nat → Int32} {b_seconds : Nat → Int32} {b_stack : Nat → Int32} {b_pathsOf : Nat → Int32} {b_lengthOf : Nat → Int32} {b_choicesOf : Nat → Int32} {b_todo : Nat → Int32} {b_cache : Nat → Int32} {b_path : Nat → Int32} {b_tops : Nat → Int32} {b_missed : Nat → Int32} {b_struck : Nat → Int32} {b_worstPath : Nat → Int32} {b_mostMissed : Nat → Int32} {b_mostStruck : Nat → Int32} {b_leastMissed : Nat → Int32} {b_held : Nat → Int32} {b_contents : Nat → Int64} {b_ages : Nat → Int32} {b_phase : Nat → Int32} {b_node : Nat → Int32} {b_sum : Nat → Int32} {b_saved : Nat → Int32} {b_greatest : Nat → Int32} {b_met : Nat → Int32} {b_unsure : Nat → Int32} {i hi : Nat} (hn : n < 18) (hj : j + 1 < 20) (hi4 : hi ≤ 4) (hii : i ≤ 4) (hh : b_highs n = nI hi)
    (H1 : i < hi → post (h_sets, h_places, h_made, h_depth, h_size, h_open, h_time, h_chosen, h_kept, h_worst, h_best, h_worstRuns, h_worstChoices, h_ends, h_bound, nI (j + 1 + 1), h_back, b_sorts, b_lows, b_highs, b_firsts, b_seconds, b_stack, b_pathsOf, b_lengthOf, b_choicesOf, b_todo, b_cache, b_path, b_tops, b_missed, b_struck, b_worstPath, b_mostMissed, b_mostStruck, b_leastMissed, b_held, b_contents, b_ages, upd b_phase (j + 1) 0, upd b_node (j + 1) (b_firsts n), b_sum, b_saved, b_greatest, b_met, b_unsure)) (H2 : ¬ i < hi → post (h_sets, h_places, h_made, h_depth, h_size, h_open, h_time, h_chosen, h_kept, h_worst, h_best, h_worstRuns, h_worstChoices, h_ends, h_bound, nI j, b_sum j, b_sorts, b_lows, b_highs, b_firsts, b_seconds, b_stack, b_pathsOf, b_lengthOf, b_choicesOf, b_todo, b_cache, b_path, b_tops, b_missed, b_struck, b_worstPath, b_mostMissed, b_mostStruck, b_leastMissed, b_held, b_contents, sw_f (fun x => b_greatest (12 * j + x)) b_ages 12, b_phase, b_node, b_sum, b_saved, b_greatest, b_met, b_unsure)) : wY_goOnLoop_82 post (nI n) (nI j) (nI i) h_sets h_places h_made h_depth h_size h_open h_time h_chosen h_kept h_worst h_best h_worstRuns h_worstChoices h_ends h_bound (nI (j + 1)) h_back b_sorts b_lows b_highs b_firsts b_seconds b_stack b_pathsOf b_lengthOf b_choicesOf b_todo b_cache b_path b_tops b_missed b_struck b_worstPath b_mostMissed b_mostStruck b_leastMissed b_held b_contents b_ages b_phase b_node b_sum b_saved b_greatest b_met b_unsure := by
  have c : (nI n).toNatClampNeg = n := nI_clamp (by omega)
  have ii : vp_in (nI n) 36 := vp_in_nI (by omega) (by omega)
  have cj : (nI j).toNatClampNeg = j := nI_clamp (by omega)
  have ij : vp_in (nI j) 20 := vp_in_nI (by omega) (by omega)
  refine And.intro ii ?_
  rw [c, hh]
  by_cases z : i < hi
  · exact br_f (nI_ge z (by omega)) ⟨ii, ye_enter (h_under := h_under) hj (H1 z)⟩
  · refine br_t (nI_le (by omega) (by omega)) (ytg_m (by omega) ⟨ij, ?_⟩)
    rw [cj]
    exact nm_r (nI_pred j) (H2 z)
theorem yg_47 {h_sets : Int32} {h_places : Int32} {h_made : Int32} {h_depth : Int32} {h_size : Int32} {h_open : Int32} {h_time : Int32} {h_chosen : Int32} {h_kept : Int32} {h_worst : Int32} {h_best : Int32} {h_worstRuns : Int32} {h_worstChoices : Int32} {h_ends : Int32} {h_bound : Int32} {h_under : Int32} {h_back : Int32} {b_sorts : Nat → Int32} {b_lows : Nat → Int32} {b_highs : Nat → Int32} {b_firsts : Nat → Int32} {b_seconds : Nat → Int32} {b_stack : Nat → Int32} {b_pathsOf : Nat → Int32} {b_lengthOf : Nat → Int32} {b_choicesOf : Nat → Int32} {b_todo : Nat → Int32} {b_cache : Nat → Int32} {b_path : Nat → Int32} {b_tops : Nat → Int32} {b_missed : Nat → Int32} {b_struck : Nat → Int32} {b_worstPath : Nat → Int32} {b_mostMissed : Nat → Int32} {b_mostStruck : Nat → Int32} {b_leastMissed : Nat → Int32} {b_held : Nat → Int32} {b_contents : Nat → Int64} {b_ages : Nat → Int32} {b_phase : Nat → Int32} {b_node : Nat → Int32} {b_sum : Nat → Int32} {b_saved : Nat → Int32} {b_greatest : Nat → Int32} {b_met : Nat → Int32} {b_unsure : Nat → Int32} {i lo hi : Nat} {z0 : Int32} {gr' : Nat → Int32} (hn : n < 18) (hj : j + 1 < 20) (hl4 : lo ≤ 4) (hi4 : hi ≤ 4) (hii : i ≤ 4) (hl : b_lows n = nI lo) (hh : b_highs n = nI hi)
    (hgr : (i < lo ∧ gr' = b_greatest) ∨ (i = lo ∧ gr' = sr_f (12 * j) b_ages b_greatest 12) ∨ (lo < i ∧ gr' = sr_f (12 * j) (fun x => ix_x (b_greatest (12 * j + x)) (b_ages x)) b_greatest 12))
    (H1 : i < hi → post (h_sets, h_places, h_made, h_depth, h_size, h_open, h_time, h_chosen, h_kept, h_worst, h_best, h_worstRuns, h_worstChoices, h_ends, h_bound, nI (j + 1 + 1), h_back, b_sorts, b_lows, b_highs, b_firsts, b_seconds, b_stack, b_pathsOf, b_lengthOf, b_choicesOf, b_todo, b_cache, b_path, b_tops, b_missed, b_struck, b_worstPath, b_mostMissed, b_mostStruck, b_leastMissed, b_held, b_contents, b_ages, upd b_phase (j + 1) 0, upd b_node (j + 1) (b_firsts n), upd b_sum j z0, b_saved, gr', b_met, b_unsure))
    (H2 : ¬ i < hi → post (h_sets, h_places, h_made, h_depth, h_size, h_open, h_time, h_chosen, h_kept, h_worst, h_best, h_worstRuns, h_worstChoices, h_ends, h_bound, nI j, z0, b_sorts, b_lows, b_highs, b_firsts, b_seconds, b_stack, b_pathsOf, b_lengthOf, b_choicesOf, b_todo, b_cache, b_path, b_tops, b_missed, b_struck, b_worstPath, b_mostMissed, b_mostStruck, b_leastMissed, b_held, b_contents, sw_f (fun x => gr' (12 * j + x)) b_ages 12, b_phase, b_node, upd b_sum j z0, b_saved, gr', b_met, b_unsure)) : wY_goOnLoop_47 post (nI n) (nI j) (nI i) z0 (nI j) h_sets h_places h_made h_depth h_size h_open h_time h_chosen h_kept h_worst h_best h_worstRuns h_worstChoices h_ends h_bound (nI (j + 1)) h_back b_sorts b_lows b_highs b_firsts b_seconds b_stack b_pathsOf b_lengthOf b_choicesOf b_todo b_cache b_path b_tops b_missed b_struck b_worstPath b_mostMissed b_mostStruck b_leastMissed b_held b_contents b_ages b_phase b_node b_sum b_saved b_greatest b_met b_unsure := by
  have c : (nI n).toNatClampNeg = n := nI_clamp (by omega)
  have ii : vp_in (nI n) 36 := vp_in_nI (by omega) (by omega)
  have cj : (nI j).toNatClampNeg = j := nI_clamp (by omega)
  have ij : vp_in (nI j) 20 := vp_in_nI (by omega) (by omega)
  have H2' : ¬ i < hi → post (h_sets, h_places, h_made, h_depth, h_size, h_open, h_time, h_chosen, h_kept, h_worst, h_best, h_worstRuns, h_worstChoices, h_ends, h_bound, nI j, upd b_sum j z0 j, b_sorts, b_lows, b_highs, b_firsts, b_seconds, b_stack, b_pathsOf, b_lengthOf, b_choicesOf, b_todo, b_cache, b_path, b_tops, b_missed, b_struck, b_worstPath, b_mostMissed, b_mostStruck, b_leastMissed, b_held, b_contents, sw_f (fun x => gr' (12 * j + x)) b_ages 12, b_phase, b_node, upd b_sum j z0, b_saved, gr', b_met, b_unsure) := by
    rw [us_s]; exact H2
  refine And.intro ij (um_u cj ⟨ii, ?_⟩)
  rw [c, hl]
  rcases hgr with ⟨z, e⟩ | ⟨z, e⟩ | ⟨z, e⟩
  · subst e
    exact br_t (nI_lt z (by omega)) (yg_82 (h_under := h_under) hn hj hi4 hii hh H1 H2')
  · subst e
    refine br_f (nI_nlt (by omega) (by omega)) ⟨ii, br_t (nI_le (by omega) (by omega)) ?_⟩
    exact ykg_m (by omega) (yg_82 (h_under := h_under) hn hj hi4 hii hh H1 H2')
  · subst e
    refine br_f (nI_nlt (by omega) (by omega)) ⟨ii, br_f (nI_ge z (by omega)) ?_⟩
    exact ykh_m (by omega) (yg_82 (h_under := h_under) hn hj hi4 hii hh H1 H2')
theorem yg_loop {h_sets : Int32} {h_places : Int32} {h_made : Int32} {h_depth : Int32} {h_size : Int32} {h_open : Int32} {h_time : Int32} {h_chosen : Int32} {h_kept : Int32} {h_worst : Int32} {h_best : Int32} {h_worstRuns : Int32} {h_worstChoices : Int32} {h_ends : Int32} {h_bound : Int32} {h_under : Int32} {h_back : Int32} {b_sorts : Nat → Int32} {b_lows : Nat → Int32} {b_highs : Nat → Int32} {b_firsts : Nat → Int32} {b_seconds : Nat → Int32} {b_stack : Nat → Int32} {b_pathsOf : Nat → Int32} {b_lengthOf : Nat → Int32} {b_choicesOf : Nat → Int32} {b_todo : Nat → Int32} {b_cache : Nat → Int32} {b_path : Nat → Int32} {b_tops : Nat → Int32} {b_missed : Nat → Int32} {b_struck : Nat → Int32} {b_worstPath : Nat → Int32} {b_mostMissed : Nat → Int32} {b_mostStruck : Nat → Int32} {b_leastMissed : Nat → Int32} {b_held : Nat → Int32} {b_contents : Nat → Int64} {b_ages : Nat → Int32} {b_phase : Nat → Int32} {b_node : Nat → Int32} {b_sum : Nat → Int32} {b_saved : Nat → Int32} {b_greatest : Nat → Int32} {b_met : Nat → Int32} {b_unsure : Nat → Int32} {i lo hi : Nat} {z0 : Int32} {gr' : Nat → Int32} (hn : n < 18) (hj : j + 1 < 20) (hl4 : lo ≤ 4) (hi4 : hi ≤ 4) (hii : i ≤ 4) (hl : b_lows n = nI lo) (hh : b_highs n = nI hi) (hph : b_phase j = nI i)
    (hz : (i = 0 ∧ z0 = 0) ∨ (0 < i ∧ z0 = b_sum j + h_back))
    (hgr : (i < lo ∧ gr' = b_greatest) ∨ (i = lo ∧ gr' = sr_f (12 * j) b_ages b_greatest 12) ∨ (lo < i ∧ gr' = sr_f (12 * j) (fun x => ix_x (b_greatest (12 * j + x)) (b_ages x)) b_greatest 12))
    (H1 : i < hi → post (h_sets, h_places, h_made, h_depth, h_size, h_open, h_time, h_chosen, h_kept, h_worst, h_best, h_worstRuns, h_worstChoices, h_ends, h_bound, nI (j + 1 + 1), h_back, b_sorts, b_lows, b_highs, b_firsts, b_seconds, b_stack, b_pathsOf, b_lengthOf, b_choicesOf, b_todo, b_cache, b_path, b_tops, b_missed, b_struck, b_worstPath, b_mostMissed, b_mostStruck, b_leastMissed, b_held, b_contents, b_ages, upd (upd b_phase j (nI (i + 1))) (j + 1) 0, upd b_node (j + 1) (b_firsts n), upd b_sum j z0, b_saved, gr', b_met, b_unsure))
    (H2 : ¬ i < hi → post (h_sets, h_places, h_made, h_depth, h_size, h_open, h_time, h_chosen, h_kept, h_worst, h_best, h_worstRuns, h_worstChoices, h_ends, h_bound, nI j, z0, b_sorts, b_lows, b_highs, b_firsts, b_seconds, b_stack, b_pathsOf, b_lengthOf, b_choicesOf, b_todo, b_cache, b_path, b_tops, b_missed, b_struck, b_worstPath, b_mostMissed, b_mostStruck, b_leastMissed, b_held, b_contents, sw_f (fun x => gr' (12 * j + x)) b_ages 12, upd b_phase j (nI (i + 1)), b_node, upd b_sum j z0, b_saved, gr', b_met, b_unsure)) : wpY_goOnLoop post (h_sets, h_places, h_made, h_depth, h_size, h_open, h_time, h_chosen, h_kept, h_worst, h_best, h_worstRuns, h_worstChoices, h_ends, h_bound, nI (j + 1), h_back, b_sorts, b_lows, b_highs, b_firsts, b_seconds, b_stack, b_pathsOf, b_lengthOf, b_choicesOf, b_todo, b_cache, b_path, b_tops, b_missed, b_struck, b_worstPath, b_mostMissed, b_mostStruck, b_leastMissed, b_held, b_contents, b_ages, b_phase, b_node, b_sum, b_saved, b_greatest, b_met, b_unsure) (nI n) := by
  have cj : (nI j).toNatClampNeg = j := nI_clamp (by omega)
  have ij : vp_in (nI j) 20 := vp_in_nI (by omega) (by omega)
  refine nm_r (nI_pred j) ⟨ij, nm_r (e' := nI i) (by rw [cj]; exact hph) ⟨ij, ?_⟩⟩
  rw [cj, nI_1]
  refine nm_e ?_
  rcases hz with ⟨z, e⟩ | ⟨z, e⟩
  · subst e z
    exact br_t rfl (yg_47 (h_under := h_under) hn hj hl4 hi4 hii hl hh hgr H1 H2)
  · subst e
    exact br_f (nI_ne0 z (by omega)) ⟨ij, yg_47 (h_under := h_under) hn hj hl4 hi4 hii hl hh hgr H1 H2⟩
theorem yf_go {h_sets : Int32} {h_places : Int32} {h_made : Int32} {h_depth : Int32} {h_size : Int32} {h_open : Int32} {h_time : Int32} {h_chosen : Int32} {h_kept : Int32} {h_worst : Int32} {h_best : Int32} {h_worstRuns : Int32} {h_worstChoices : Int32} {h_ends : Int32} {h_bound : Int32} {h_under : Int32} {h_back : Int32} {b_sorts : Nat → Int32} {b_lows : Nat → Int32} {b_highs : Nat → Int32} {b_firsts : Nat → Int32} {b_seconds : Nat → Int32} {b_stack : Nat → Int32} {b_pathsOf : Nat → Int32} {b_lengthOf : Nat → Int32} {b_choicesOf : Nat → Int32} {b_todo : Nat → Int32} {b_cache : Nat → Int32} {b_path : Nat → Int32} {b_tops : Nat → Int32} {b_missed : Nat → Int32} {b_struck : Nat → Int32} {b_worstPath : Nat → Int32} {b_mostMissed : Nat → Int32} {b_mostStruck : Nat → Int32} {b_leastMissed : Nat → Int32} {b_held : Nat → Int32} {b_contents : Nat → Int64} {b_ages : Nat → Int32} {b_phase : Nat → Int32} {b_node : Nat → Int32} {b_sum : Nat → Int32} {b_saved : Nat → Int32} {b_greatest : Nat → Int32} {b_met : Nat → Int32} {b_unsure : Nat → Int32} {F : Nat} (hn : n < 18) (hj : j < 20) (hnd : b_node j = nI n)
    (H0 : b_sorts n = 0 → wpY_judgeAccess (fun u => match u with | (h_sets, h_places, h_made, h_depth, h_size, h_open, h_time, h_chosen, h_kept, h_worst, h_best, h_worstRuns, h_worstChoices, h_ends, h_bound, h_under, h_back, b_sorts, b_lows, b_highs, b_firsts, b_seconds, b_stack, b_pathsOf, b_lengthOf, b_choicesOf, b_todo, b_cache, b_path, b_tops, b_missed, b_struck, b_worstPath, b_mostMissed, b_mostStruck, b_leastMissed, b_held, b_contents, b_ages, b_phase, b_node, b_sum, b_saved, b_greatest, b_met, b_unsure) => wY_findBound_67 post F h_sets h_places h_made h_depth h_size h_open h_time h_chosen h_kept h_worst h_best h_worstRuns h_worstChoices h_ends h_bound h_under h_back b_sorts b_lows b_highs b_firsts b_seconds b_stack b_pathsOf b_lengthOf b_choicesOf b_todo b_cache b_path b_tops b_missed b_struck b_worstPath b_mostMissed b_mostStruck b_leastMissed b_held b_contents b_ages b_phase b_node b_sum b_saved b_greatest b_met b_unsure) (h_sets, h_places, h_made, h_depth, h_size, h_open, h_time, h_chosen, h_kept, h_worst, h_best, h_worstRuns, h_worstChoices, h_ends, h_bound, nI (j + 1), h_back, b_sorts, b_lows, b_highs, b_firsts, b_seconds, b_stack, b_pathsOf, b_lengthOf, b_choicesOf, b_todo, b_cache, b_path, b_tops, b_missed, b_struck, b_worstPath, b_mostMissed, b_mostStruck, b_leastMissed, b_held, b_contents, b_ages, b_phase, b_node, b_sum, b_saved, b_greatest, b_met, b_unsure) (nI n) (b_lows n))
    (H1 : b_sorts n = 1 → wY_findBound_67 post F h_sets h_places h_made h_depth h_size h_open h_time h_chosen h_kept h_worst h_best h_worstRuns h_worstChoices h_ends h_bound (nI j) (b_lows n) b_sorts b_lows b_highs b_firsts b_seconds b_stack b_pathsOf b_lengthOf b_choicesOf b_todo b_cache b_path b_tops b_missed b_struck b_worstPath b_mostMissed b_mostStruck b_leastMissed b_held b_contents b_ages b_phase b_node b_sum b_saved b_greatest b_met b_unsure)
    (H2 : b_sorts n = 2 → wpY_goOnSeq (fun u => match u with | (h_sets, h_places, h_made, h_depth, h_size, h_open, h_time, h_chosen, h_kept, h_worst, h_best, h_worstRuns, h_worstChoices, h_ends, h_bound, h_under, h_back, b_sorts, b_lows, b_highs, b_firsts, b_seconds, b_stack, b_pathsOf, b_lengthOf, b_choicesOf, b_todo, b_cache, b_path, b_tops, b_missed, b_struck, b_worstPath, b_mostMissed, b_mostStruck, b_leastMissed, b_held, b_contents, b_ages, b_phase, b_node, b_sum, b_saved, b_greatest, b_met, b_unsure) => wY_findBound_67 post F h_sets h_places h_made h_depth h_size h_open h_time h_chosen h_kept h_worst h_best h_worstRuns h_worstChoices h_ends h_bound h_under h_back b_sorts b_lows b_highs b_firsts b_seconds b_stack b_pathsOf b_lengthOf b_choicesOf b_todo b_cache b_path b_tops b_missed b_struck b_worstPath b_mostMissed b_mostStruck b_leastMissed b_held b_contents b_ages b_phase b_node b_sum b_saved b_greatest b_met b_unsure) (h_sets, h_places, h_made, h_depth, h_size, h_open, h_time, h_chosen, h_kept, h_worst, h_best, h_worstRuns, h_worstChoices, h_ends, h_bound, nI (j + 1), h_back, b_sorts, b_lows, b_highs, b_firsts, b_seconds, b_stack, b_pathsOf, b_lengthOf, b_choicesOf, b_todo, b_cache, b_path, b_tops, b_missed, b_struck, b_worstPath, b_mostMissed, b_mostStruck, b_leastMissed, b_held, b_contents, b_ages, b_phase, b_node, b_sum, b_saved, b_greatest, b_met, b_unsure) (nI n))
    (H3 : b_sorts n = 3 → wpY_goOnIf (fun u => match u with | (h_sets, h_places, h_made, h_depth, h_size, h_open, h_time, h_chosen, h_kept, h_worst, h_best, h_worstRuns, h_worstChoices, h_ends, h_bound, h_under, h_back, b_sorts, b_lows, b_highs, b_firsts, b_seconds, b_stack, b_pathsOf, b_lengthOf, b_choicesOf, b_todo, b_cache, b_path, b_tops, b_missed, b_struck, b_worstPath, b_mostMissed, b_mostStruck, b_leastMissed, b_held, b_contents, b_ages, b_phase, b_node, b_sum, b_saved, b_greatest, b_met, b_unsure) => wY_findBound_67 post F h_sets h_places h_made h_depth h_size h_open h_time h_chosen h_kept h_worst h_best h_worstRuns h_worstChoices h_ends h_bound h_under h_back b_sorts b_lows b_highs b_firsts b_seconds b_stack b_pathsOf b_lengthOf b_choicesOf b_todo b_cache b_path b_tops b_missed b_struck b_worstPath b_mostMissed b_mostStruck b_leastMissed b_held b_contents b_ages b_phase b_node b_sum b_saved b_greatest b_met b_unsure) (h_sets, h_places, h_made, h_depth, h_size, h_open, h_time, h_chosen, h_kept, h_worst, h_best, h_worstRuns, h_worstChoices, h_ends, h_bound, nI (j + 1), h_back, b_sorts, b_lows, b_highs, b_firsts, b_seconds, b_stack, b_pathsOf, b_lengthOf, b_choicesOf, b_todo, b_cache, b_path, b_tops, b_missed, b_struck, b_worstPath, b_mostMissed, b_mostStruck, b_leastMissed, b_held, b_contents, b_ages, b_phase, b_node, b_sum, b_saved, b_greatest, b_met, b_unsure) (nI n))
    (H4 : b_sorts n = 4 → wpY_goOnLoop (fun u => match u with | (h_sets, h_places, h_made, h_depth, h_size, h_open, h_time, h_chosen, h_kept, h_worst, h_best, h_worstRuns, h_worstChoices, h_ends, h_bound, h_under, h_back, b_sorts, b_lows, b_highs, b_firsts, b_seconds, b_stack, b_pathsOf, b_lengthOf, b_choicesOf, b_todo, b_cache, b_path, b_tops, b_missed, b_struck, b_worstPath, b_mostMissed, b_mostStruck, b_leastMissed, b_held, b_contents, b_ages, b_phase, b_node, b_sum, b_saved, b_greatest, b_met, b_unsure) => wY_findBound_67 post F h_sets h_places h_made h_depth h_size h_open h_time h_chosen h_kept h_worst h_best h_worstRuns h_worstChoices h_ends h_bound h_under h_back b_sorts b_lows b_highs b_firsts b_seconds b_stack b_pathsOf b_lengthOf b_choicesOf b_todo b_cache b_path b_tops b_missed b_struck b_worstPath b_mostMissed b_mostStruck b_leastMissed b_held b_contents b_ages b_phase b_node b_sum b_saved b_greatest b_met b_unsure) (h_sets, h_places, h_made, h_depth, h_size, h_open, h_time, h_chosen, h_kept, h_worst, h_best, h_worstRuns, h_worstChoices, h_ends, h_bound, nI (j + 1), h_back, b_sorts, b_lows, b_highs, b_firsts, b_seconds, b_stack, b_pathsOf, b_lengthOf, b_choicesOf, b_todo, b_cache, b_path, b_tops, b_missed, b_struck, b_worstPath, b_mostMissed, b_mostStruck, b_leastMissed, b_held, b_contents, b_ages, b_phase, b_node, b_sum, b_saved, b_greatest, b_met, b_unsure) (nI n)) (hk : b_sorts n = 0 ∨ b_sorts n = 1 ∨ b_sorts n = 2 ∨ b_sorts n = 3 ∨ b_sorts n = 4) : wY_findBound_67 post (F + 1) h_sets h_places h_made h_depth h_size h_open h_time h_chosen h_kept h_worst h_best h_worstRuns h_worstChoices h_ends h_bound (nI (j + 1)) h_back b_sorts b_lows b_highs b_firsts b_seconds b_stack b_pathsOf b_lengthOf b_choicesOf b_todo b_cache b_path b_tops b_missed b_struck b_worstPath b_mostMissed b_mostStruck b_leastMissed b_held b_contents b_ages b_phase b_node b_sum b_saved b_greatest b_met b_unsure := by
  have c : (nI n).toNatClampNeg = n := nI_clamp (by omega)
  have i : vp_in (nI n) 36 := vp_in_nI (by omega) (by omega)
  have ej : nI (j + 1) - 1 = nI j := nI_pred j
  have cj : (nI j).toNatClampNeg = j := nI_clamp (by omega)
  refine br_f (nI_nle (by omega) (by omega)) ⟨by rw [ej]; exact vp_in_nI hj (by omega), nm_r (e' := nI n) (by rw [ej, cj]; exact hnd) ⟨i, ?_⟩⟩
  rw [c]
  rcases hk with k | k | k | k | k
  · exact br_t k ⟨i, H0 k⟩
  · exact br_f (by rw [k]; decide) ⟨i, br_t k ⟨i, nm_r (nI_pred j) (H1 k)⟩⟩
  · exact br_f (by rw [k]; decide) ⟨i, br_f (by rw [k]; decide) ⟨i, br_t k (H2 k)⟩⟩
  · exact br_f (by rw [k]; decide) ⟨i, br_f (by rw [k]; decide) ⟨i, br_f (by rw [k]; decide) ⟨i, br_t k (H3 k)⟩⟩⟩
  · exact br_f (by rw [k]; decide) ⟨i, br_f (by rw [k]; decide) ⟨i, br_f (by rw [k]; decide) ⟨i, br_f (by rw [k]; decide) (H4 k)⟩⟩⟩
end
end
section
/-! the notes of both sides -/
theorem nd_A {g : Nat → Nat → Nat} {sz : Nat} {ki xs ys xr yr : Nat → Int32} {f : Int32 → Int32 → Int32} (hsz : sz ≤ 18) (A : nt_A g sz xs ys) (hr : ∀ n, n < 18 → xr n = yr n) (hk : ∀ n, n < sz → ki n = nI (g 0 n) ∧ g 0 n ≤ 4) :
    nt_A g sz (sw_f (fun j => if ki j = 0 then f (xs j) (xr j) else xs j) xs sz) (sw_f (fun j => f (ys j) (yr j)) ys 18) := by
  intro n hn
  obtain ⟨a1, a2⟩ := A n hn
  refine ⟨fun h => ?_, fun h => ?_⟩
  · rw [sw_lt h.1, sw_lt hn, if_pos (by rw [(hk n h.1).1, h.2]; rfl), a1 h, hr n hn]
  · rcases Nat.lt_or_ge n sz with z | z
    · rw [sw_lt z, if_neg, a2 h]
      obtain ⟨k1, k2⟩ := hk n z
      rw [k1]
      exact nI_ne0 (by omega) (by omega)
    · rw [sw_ge z, a2 h]
theorem nd_time {f_setBits : Int32} {f_placeCount : Int32} {f_made : Int32} {f_height : Int32} {f_pathCount : Int32} {f_greatestLength : Int32} {f_worstTime : Int32} {f_bestTime : Int32} {f_worstCount : Int32} {f_programBound : Int32} {f_endingCount : Int32} {f_chosen : Int32} {f_time : Int32} {a_kind : Nat → Int32} {a_first : Nat → Int32} {a_second : Nat → Int32} {a_low : Nat → Int32} {a_high : Nat → Int32} {a_parent : Nat → Int32} {a_pathsOf : Nat → Int32} {a_lengthOf : Nat → Int32} {a_choicesOf : Nat → Int32} {a_stack : Nat → Int32} {a_worstPath : Nat → Int32} {a_sureness : Nat → Int32} {a_mostMisses : Nat → Int32} {a_mostHits : Nat → Int32} {a_leastMisses : Nat → Int32} {a_endings : Nat → Int64} {a_runsHolding : Nat → Int32} {a_rounds : Nat → Int32} {a_path : Nat → Int32} {a_pathTop : Nat → Int32} {a_cache : Nat → Int32} {a_runMisses : Nat → Int32} {a_runHits : Nat → Int32} {a_table : Nat → Int32} {a_before : Nat → Int32} {a_behind : Nat → Int32} {h_sets : Int32} {h_places : Int32} {h_made : Int32} {h_depth : Int32} {h_size : Int32} {h_open : Int32} {h_time : Int32} {h_chosen : Int32} {h_kept : Int32} {h_worst : Int32} {h_best : Int32} {h_worstRuns : Int32} {h_worstChoices : Int32} {h_ends : Int32} {h_bound : Int32} {h_under : Int32} {h_back : Int32} {b_sorts : Nat → Int32} {b_lows : Nat → Int32} {b_highs : Nat → Int32} {b_firsts : Nat → Int32} {b_seconds : Nat → Int32} {b_stack : Nat → Int32} {b_pathsOf : Nat → Int32} {b_lengthOf : Nat → Int32} {b_choicesOf : Nat → Int32} {b_todo : Nat → Int32} {b_cache : Nat → Int32} {b_path : Nat → Int32} {b_tops : Nat → Int32} {b_missed : Nat → Int32} {b_struck : Nat → Int32} {b_worstPath : Nat → Int32} {b_mostMissed : Nat → Int32} {b_mostStruck : Nat → Int32} {b_leastMissed : Nat → Int32} {b_held : Nat → Int32} {b_contents : Nat → Int64} {b_ages : Nat → Int32} {b_phase : Nat → Int32} {b_node : Nat → Int32} {b_sum : Nat → Int32} {b_saved : Nat → Int32} {b_greatest : Nat → Int32} {b_met : Nat → Int32} {b_unsure : Nat → Int32} {tt t : Nat} (htt : tt ≤ 200000) (ht : t ≤ 20) (e1 : f_time = nI tt) (e2 : h_time = nI tt) (e3 : h_chosen = nI t) (ew : f_worstTime = h_worst)
    (hw : h_worst = -1 ∨ ∃ z, z ≤ 200000 ∧ h_worst = nI z) (hp : ∀ k, k < 20 → (k < t → b_path k = a_path k) ∧ (¬ k < t → a_path k = -4)) (W : nt_W h_worst f_worstCount h_worstRuns h_worstChoices a_worstPath b_worstPath) :
    ∃ (wt xc yc yw : Int32) (xp yp : Nat → Int32), (∃ z, z ≤ 200000 ∧ wt = nI z) ∧ nt_W wt xc yc yw xp yp ∧
      (∀ post : SX → Prop, post (f_setBits, f_placeCount, f_made, f_height, f_pathCount, f_greatestLength, wt, ix_n f_time f_bestTime, xc, f_programBound, f_endingCount, f_chosen, f_time, a_kind, a_first, a_second, a_low, a_high, a_parent, a_pathsOf, a_lengthOf, a_choicesOf, a_stack, xp, a_sureness, a_mostMisses, a_mostHits, a_leastMisses, a_endings, a_runsHolding, a_rounds, a_path, a_pathTop, a_cache, a_runMisses, a_runHits, a_table, a_before, a_behind) → wpX_noteTime post (f_setBits, f_placeCount, f_made, f_height, f_pathCount, f_greatestLength, f_worstTime, f_bestTime, f_worstCount, f_programBound, f_endingCount, f_chosen, f_time, a_kind, a_first, a_second, a_low, a_high, a_parent, a_pathsOf, a_lengthOf, a_choicesOf, a_stack, a_worstPath, a_sureness, a_mostMisses, a_mostHits, a_leastMisses, a_endings, a_runsHolding, a_rounds, a_path, a_pathTop, a_cache, a_runMisses, a_runHits, a_table, a_before, a_behind)) ∧
      (∀ post : SY → Prop, wY_note_81 post h_sets h_places h_made h_depth h_size h_open h_time h_chosen h_kept wt h_best yc yw h_ends h_bound h_under h_back b_sorts b_lows b_highs b_firsts b_seconds b_stack b_pathsOf b_lengthOf b_choicesOf b_todo b_cache b_path b_tops b_missed b_struck yp b_mostMissed b_mostStruck b_leastMissed b_held b_contents b_ages b_phase b_node b_sum b_saved b_greatest b_met b_unsure → wpY_note post (h_sets, h_places, h_made, h_depth, h_size, h_open, h_time, h_chosen, h_kept, h_worst, h_best, h_worstRuns, h_worstChoices, h_ends, h_bound, h_under, h_back, b_sorts, b_lows, b_highs, b_firsts, b_seconds, b_stack, b_pathsOf, b_lengthOf, b_choicesOf, b_todo, b_cache, b_path, b_tops, b_missed, b_struck, b_worstPath, b_mostMissed, b_mostStruck, b_leastMissed, b_held, b_contents, b_ages, b_phase, b_node, b_sum, b_saved, b_greatest, b_met, b_unsure)) := by
  have ew := ew.symm
  subst ew e1 e2
  have m1 : ∀ x : Nat, x ≤ 200000 → ¬ nI x ≤ -1 := by
    intro x hx h
    have h1 := Int32.le_iff_toInt_le.mp h
    rw [nI_toInt (by omega)] at h1
    have h2 : (-1 : Int32).toInt = -1 := by decide
    omega
  by_cases h : nI tt ≤ h_worst
  · have hz : ∃ z, z ≤ 200000 ∧ h_worst = nI z := by
      rcases hw with y | y
      · rw [y] at h; exact absurd h (m1 tt htt)
      · exact y
    have W' : f_worstCount = h_worstRuns ∧ ∃ wc, wc ≤ 20 ∧ h_worstChoices = nI wc ∧ ∀ k, k < 20 → (k < wc → a_worstPath k = b_worstPath k) ∧ (¬ k < wc → a_worstPath k = -4) := by
      rcases W with y | y
      · rw [y] at h; exact absurd h (m1 tt htt)
      · exact y
    by_cases e : nI tt = h_worst
    · refine ⟨h_worst, f_worstCount + 1, h_worstRuns + 1, h_worstChoices, a_worstPath, b_worstPath, hz, Or.inr ⟨by rw [W'.1], W'.2⟩, fun post H => ?_, fun post H => ?_⟩
      · exact xn_time (fun y => absurd h y) (fun _ => H) (fun _ y => absurd e y)
      · exact yn_note ht e3 (fun y => absurd h y) (fun _ => H) (fun _ y => absurd e y)
    · refine ⟨h_worst, f_worstCount, h_worstRuns, h_worstChoices, a_worstPath, b_worstPath, hz, Or.inr W', fun post H => ?_, fun post H => ?_⟩
      · exact xn_time (fun y => absurd h y) (fun y => absurd y e) (fun _ _ => H)
      · exact yn_note ht e3 (fun y => absurd h y) (fun y => absurd y e) (fun _ _ => H)
  · refine ⟨nI tt, 0 + 1, 0 + 1, h_chosen, sw_f a_path a_worstPath 20, sw_f b_path b_worstPath t, ⟨tt, htt, rfl⟩, Or.inr ⟨rfl, t, ht, e3, fun k hk => ⟨fun z => ?_, fun z => ?_⟩⟩, fun post H => ?_, fun post H => ?_⟩
    · rw [sw_lt hk, sw_lt z, (hp k hk).1 z]
    · rw [sw_lt hk, (hp k hk).2 z]
    · exact xn_time (fun _ => H) (fun y => absurd (by rw [y]; exact Int32.le_refl _) h) (fun y => absurd y h)
    · exact yn_note ht e3 (fun _ => H) (fun y => absurd (by rw [y]; exact Int32.le_refl _) h) (fun y => absurd y h)
theorem nd_xacc {f_setBits : Int32} {f_placeCount : Int32} {f_made : Int32} {f_height : Int32} {f_pathCount : Int32} {f_greatestLength : Int32} {f_worstTime : Int32} {f_bestTime : Int32} {f_worstCount : Int32} {f_programBound : Int32} {f_endingCount : Int32} {f_chosen : Int32} {f_time : Int32} {a_kind : Nat → Int32} {a_first : Nat → Int32} {a_second : Nat → Int32} {a_low : Nat → Int32} {a_high : Nat → Int32} {a_parent : Nat → Int32} {a_pathsOf : Nat → Int32} {a_lengthOf : Nat → Int32} {a_choicesOf : Nat → Int32} {a_stack : Nat → Int32} {a_worstPath : Nat → Int32} {a_sureness : Nat → Int32} {a_mostMisses : Nat → Int32} {a_mostHits : Nat → Int32} {a_leastMisses : Nat → Int32} {a_endings : Nat → Int64} {a_runsHolding : Nat → Int32} {a_rounds : Nat → Int32} {a_path : Nat → Int32} {a_pathTop : Nat → Int32} {a_cache : Nat → Int32} {a_runMisses : Nat → Int32} {a_runHits : Nat → Int32} {a_table : Nat → Int32} {a_before : Nat → Int32} {a_behind : Nat → Int32} {post : SX → Prop} {ma : Nat} (hma : ma ≤ 18) (hm : f_made = nI ma)
    (H : post (f_setBits, f_placeCount, f_made, f_height, f_pathCount, f_greatestLength, f_worstTime, f_bestTime, f_worstCount, f_programBound, f_endingCount, f_chosen, f_time, a_kind, a_first, a_second, a_low, a_high, a_parent, a_pathsOf, a_lengthOf, a_choicesOf, a_stack, a_worstPath, a_sureness, sw_f (fun j => if a_kind j = 0 then ix_x (a_mostMisses j) (a_runMisses j) else a_mostMisses j) a_mostMisses ma, sw_f (fun j => if a_kind j = 0 then ix_x (a_mostHits j) (a_runHits j) else a_mostHits j) a_mostHits ma, sw_f (fun j => if a_kind j = 0 then ix_n (a_leastMisses j) (a_runMisses j) else a_leastMisses j) a_leastMisses ma, a_endings, a_runsHolding, a_rounds, a_path, a_pathTop, a_cache, a_runMisses, a_runHits, a_table, a_before, a_behind)) : wpX_noteAccesses post (f_setBits, f_placeCount, f_made, f_height, f_pathCount, f_greatestLength, f_worstTime, f_bestTime, f_worstCount, f_programBound, f_endingCount, f_chosen, f_time, a_kind, a_first, a_second, a_low, a_high, a_parent, a_pathsOf, a_lengthOf, a_choicesOf, a_stack, a_worstPath, a_sureness, a_mostMisses, a_mostHits, a_leastMisses, a_endings, a_runsHolding, a_rounds, a_path, a_pathTop, a_cache, a_runMisses, a_runHits, a_table, a_before, a_behind) := by
  have L := xn_acc (a_mostMisses := a_mostMisses) (a_mostHits := a_mostHits) (a_leastMisses := a_leastMisses) hma hm H ma 0 (by omega)
  rw [sw_0, sw_0, sw_0] at L
  exact Exists.intro (ma + 1) L
theorem nd_y81 {h_sets : Int32} {h_places : Int32} {h_made : Int32} {h_depth : Int32} {h_size : Int32} {h_open : Int32} {h_time : Int32} {h_chosen : Int32} {h_kept : Int32} {h_worst : Int32} {h_best : Int32} {h_worstRuns : Int32} {h_worstChoices : Int32} {h_ends : Int32} {h_bound : Int32} {h_under : Int32} {h_back : Int32} {b_sorts : Nat → Int32} {b_lows : Nat → Int32} {b_highs : Nat → Int32} {b_firsts : Nat → Int32} {b_seconds : Nat → Int32} {b_stack : Nat → Int32} {b_pathsOf : Nat → Int32} {b_lengthOf : Nat → Int32} {b_choicesOf : Nat → Int32} {b_todo : Nat → Int32} {b_cache : Nat → Int32} {b_path : Nat → Int32} {b_tops : Nat → Int32} {b_missed : Nat → Int32} {b_struck : Nat → Int32} {b_worstPath : Nat → Int32} {b_mostMissed : Nat → Int32} {b_mostStruck : Nat → Int32} {b_leastMissed : Nat → Int32} {b_held : Nat → Int32} {b_contents : Nat → Int64} {b_ages : Nat → Int32} {b_phase : Nat → Int32} {b_node : Nat → Int32} {b_sum : Nat → Int32} {b_saved : Nat → Int32} {b_greatest : Nat → Int32} {b_met : Nat → Int32} {b_unsure : Nat → Int32} {post : SY → Prop}
    (H : ∃ n181 : Nat, wY_note_181 post h_sets h_places h_made h_depth h_size h_open h_time h_chosen h_kept h_worst (ix_n h_best h_time) h_worstRuns h_worstChoices h_ends h_bound h_under h_back n181 0 0 b_sorts b_lows b_highs b_firsts b_seconds b_stack b_pathsOf b_lengthOf b_choicesOf b_todo b_cache b_path b_tops b_missed b_struck b_worstPath (sw_f (fun j => ix_x (b_mostMissed j) (b_missed j)) b_mostMissed 18) (sw_f (fun j => ix_x (b_mostStruck j) (b_struck j)) b_mostStruck 18) (sw_f (fun j => ix_n (b_leastMissed j) (b_missed j)) b_leastMissed 18) b_held b_contents b_ages b_phase b_node b_sum b_saved b_greatest b_met b_unsure) : wY_note_81 post h_sets h_places h_made h_depth h_size h_open h_time h_chosen h_kept h_worst h_best h_worstRuns h_worstChoices h_ends h_bound h_under h_back b_sorts b_lows b_highs b_firsts b_seconds b_stack b_pathsOf b_lengthOf b_choicesOf b_todo b_cache b_path b_tops b_missed b_struck b_worstPath b_mostMissed b_mostStruck b_leastMissed b_held b_contents b_ages b_phase b_node b_sum b_saved b_greatest b_met b_unsure := by
  refine iy_L ?_
  have L := yn_acc (b_mostMissed := b_mostMissed) (b_mostStruck := b_mostStruck) (b_leastMissed := b_leastMissed) H 18 0 (by omega)
  rw [sw_0, sw_0, sw_0] at L
  exact ⟨19, L⟩
theorem nd_code {w s : Nat} {ag ce ag2 ce2 : Nat → Int32} (hw : w ≤ 4) (hs0 : 0 < s) (hs : s ≤ 4) (R : cr_R w s ag ce) (R2 : cr_R w s ag2 ce2) : lN (cd_c 8 (nt_x ag) 12) = lN (cd_c 8 (nt_x ag2) 12) ↔ lN (cd_c 13 (nt_y ce) 16) = lN (cd_c 13 (nt_y ce2) 16) := by
  have b13 : 13 ^ 16 < 2 ^ 63 := by decide
  have x1 := cd_12 (Nat.le_refl 12) (fun i hi => (nt_xlt hw R i hi).1)
  have x2 := cd_12 (Nat.le_refl 12) (fun i hi => (nt_xlt hw R2 i hi).1)
  have y1 := cd_lt (b := 13) 16 (fun i hi => (nt_ylt R i hi).1)
  have y2 := cd_lt (b := 13) 16 (fun i hi => (nt_ylt R2 i hi).1)
  rw [pk_lEQ (by omega) (by omega), pk_lEQ (Nat.lt_trans y1 b13) (Nat.lt_trans y2 b13)]
  exact nt_same hw hs0 hs R R2
theorem nd_end {f_setBits : Int32} {f_placeCount : Int32} {f_made : Int32} {f_height : Int32} {f_pathCount : Int32} {f_greatestLength : Int32} {f_worstTime : Int32} {f_bestTime : Int32} {f_worstCount : Int32} {f_programBound : Int32} {f_endingCount : Int32} {f_chosen : Int32} {f_time : Int32} {a_kind : Nat → Int32} {a_first : Nat → Int32} {a_second : Nat → Int32} {a_low : Nat → Int32} {a_high : Nat → Int32} {a_parent : Nat → Int32} {a_pathsOf : Nat → Int32} {a_lengthOf : Nat → Int32} {a_choicesOf : Nat → Int32} {a_stack : Nat → Int32} {a_worstPath : Nat → Int32} {a_sureness : Nat → Int32} {a_mostMisses : Nat → Int32} {a_mostHits : Nat → Int32} {a_leastMisses : Nat → Int32} {a_endings : Nat → Int64} {a_runsHolding : Nat → Int32} {a_rounds : Nat → Int32} {a_path : Nat → Int32} {a_pathTop : Nat → Int32} {a_cache : Nat → Int32} {a_runMisses : Nat → Int32} {a_runHits : Nat → Int32} {a_table : Nat → Int32} {a_before : Nat → Int32} {a_behind : Nat → Int32} {h_sets : Int32} {h_places : Int32} {h_made : Int32} {h_depth : Int32} {h_size : Int32} {h_open : Int32} {h_time : Int32} {h_chosen : Int32} {h_kept : Int32} {h_worst : Int32} {h_best : Int32} {h_worstRuns : Int32} {h_worstChoices : Int32} {h_ends : Int32} {h_bound : Int32} {h_under : Int32} {h_back : Int32} {b_sorts : Nat → Int32} {b_lows : Nat → Int32} {b_highs : Nat → Int32} {b_firsts : Nat → Int32} {b_seconds : Nat → Int32} {b_stack : Nat → Int32} {b_pathsOf : Nat → Int32} {b_lengthOf : Nat → Int32} {b_choicesOf : Nat → Int32} {b_todo : Nat → Int32} {b_cache : Nat → Int32} {b_path : Nat → Int32} {b_tops : Nat → Int32} {b_missed : Nat → Int32} {b_struck : Nat → Int32} {b_worstPath : Nat → Int32} {b_mostMissed : Nat → Int32} {b_mostStruck : Nat → Int32} {b_leastMissed : Nat → Int32} {b_held : Nat → Int32} {b_contents : Nat → Int64} {b_ages : Nat → Int32} {b_phase : Nat → Int32} {b_node : Nat → Int32} {b_sum : Nat → Int32} {b_saved : Nat → Int32} {b_greatest : Nat → Int32} {b_met : Nat → Int32} {b_unsure : Nat → Int32} {w s en : Nat} (hw : w ≤ 4) (hs0 : 0 < s) (hs : s ≤ 4) (hpc : f_placeCount = nI w) (R : cr_R w s a_cache b_cache) (hen : en < 150) (e1 : f_endingCount = nI en) (e2 : h_ends = nI en) (E : nt_E w s en a_endings b_contents)
    (hh : ∀ m, m < 12 → a_runsHolding m = b_held m) :
    ∃ (en' : Nat) (xe ye : Nat → Int64) (xh yh : Nat → Int32), en' ≤ en + 1 ∧ nt_E w s en' xe ye ∧ (∀ m, m < 12 → xh m = yh m) ∧
      (∀ post : SX → Prop, post (f_setBits, f_placeCount, f_made, f_height, f_pathCount, f_greatestLength, f_worstTime, f_bestTime, f_worstCount, f_programBound, nI en', f_chosen, f_time, a_kind, a_first, a_second, a_low, a_high, a_parent, a_pathsOf, a_lengthOf, a_choicesOf, a_stack, a_worstPath, a_sureness, a_mostMisses, a_mostHits, a_leastMisses, xe, xh, a_rounds, a_path, a_pathTop, a_cache, a_runMisses, a_runHits, a_table, a_before, a_behind) → wpX_noteEnding post (f_setBits, f_placeCount, f_made, f_height, f_pathCount, f_greatestLength, f_worstTime, f_bestTime, f_worstCount, f_programBound, f_endingCount, f_chosen, f_time, a_kind, a_first, a_second, a_low, a_high, a_parent, a_pathsOf, a_lengthOf, a_choicesOf, a_stack, a_worstPath, a_sureness, a_mostMisses, a_mostHits, a_leastMisses, a_endings, a_runsHolding, a_rounds, a_path, a_pathTop, a_cache, a_runMisses, a_runHits, a_table, a_before, a_behind)) ∧
      (∀ post : SY → Prop, post (h_sets, h_places, h_made, h_depth, h_size, h_open, h_time, h_chosen, h_kept, h_worst, h_best, h_worstRuns, h_worstChoices, nI en', h_bound, h_under, h_back, b_sorts, b_lows, b_highs, b_firsts, b_seconds, b_stack, b_pathsOf, b_lengthOf, b_choicesOf, b_todo, b_cache, b_path, b_tops, b_missed, b_struck, b_worstPath, b_mostMissed, b_mostStruck, b_leastMissed, yh, ye, b_ages, b_phase, b_node, b_sum, b_saved, b_greatest, b_met, b_unsure) → ∃ n181 : Nat, wY_note_181 post h_sets h_places h_made h_depth h_size h_open h_time h_chosen h_kept h_worst h_best h_worstRuns h_worstChoices h_ends h_bound h_under h_back n181 0 0 b_sorts b_lows b_highs b_firsts b_seconds b_stack b_pathsOf b_lengthOf b_choicesOf b_todo b_cache b_path b_tops b_missed b_struck b_worstPath b_mostMissed b_mostStruck b_leastMissed b_held b_contents b_ages b_phase b_node b_sum b_saved b_greatest b_met b_unsure) := by
  have hc : ∀ m, m < 12 → nt_x a_cache m < 8 ∧ a_cache m = nI (nt_x a_cache m) := fun m hm => ⟨(nt_xlt hw R m hm).1, (nt_xlt hw R m hm).2.1⟩
  have hx : ∀ (post : SX → Prop), (∃ n56 : Nat, wX_noteEnding_56 post (lN (cd_c 8 (nt_x a_cache) 12)) f_setBits f_placeCount f_made f_height f_pathCount f_greatestLength f_worstTime f_bestTime f_worstCount f_programBound f_endingCount f_chosen f_time a_kind a_first a_second a_low a_high a_parent a_pathsOf a_lengthOf a_choicesOf a_stack a_worstPath a_sureness a_mostMisses a_mostHits a_leastMisses a_endings (sw_f (fun j => if nt_x a_cache j < w then a_runsHolding j + 1 else a_runsHolding j) a_runsHolding 12) a_rounds a_path a_pathTop a_cache a_runMisses a_runHits a_table a_before a_behind n56 0 0) → wpX_noteEnding post (f_setBits, f_placeCount, f_made, f_height, f_pathCount, f_greatestLength, f_worstTime, f_bestTime, f_worstCount, f_programBound, f_endingCount, f_chosen, f_time, a_kind, a_first, a_second, a_low, a_high, a_parent, a_pathsOf, a_lengthOf, a_choicesOf, a_stack, a_worstPath, a_sureness, a_mostMisses, a_mostHits, a_leastMisses, a_endings, a_runsHolding, a_rounds, a_path, a_pathTop, a_cache, a_runMisses, a_runHits, a_table, a_before, a_behind) := by
    intro post H
    have L := xn_4 (a_runsHolding := a_runsHolding) hw hpc hc H 12 0 (by omega)
    rw [sw_0] at L
    exact Exists.intro 13 L
  have hy : ∀ (post : SY → Prop), (∃ n238 : Nat, wY_note_238 post (lN (cd_c 13 (nt_y b_cache) 16)) h_sets h_places h_made h_depth h_size h_open h_time h_chosen h_kept h_worst h_best h_worstRuns h_worstChoices h_ends h_bound h_under h_back b_sorts b_lows b_highs b_firsts b_seconds b_stack b_pathsOf b_lengthOf b_choicesOf b_todo b_cache b_path b_tops b_missed b_struck b_worstPath b_mostMissed b_mostStruck b_leastMissed (hd_f w s a_cache b_held 16) b_contents b_ages b_phase b_node b_sum b_saved b_greatest b_met b_unsure n238 0 0) → ∃ n181 : Nat, wY_note_181 post h_sets h_places h_made h_depth h_size h_open h_time h_chosen h_kept h_worst h_best h_worstRuns h_worstChoices h_ends h_bound h_under h_back n181 0 0 b_sorts b_lows b_highs b_firsts b_seconds b_stack b_pathsOf b_lengthOf b_choicesOf b_todo b_cache b_path b_tops b_missed b_struck b_worstPath b_mostMissed b_mostStruck b_leastMissed b_held b_contents b_ages b_phase b_node b_sum b_saved b_greatest b_met b_unsure := by
    intro post H
    have L := yn_181 (b_held := b_held) hw hs0 hs R H 16 0 (by omega)
    rw [hd_0] at L
    exact Exists.intro 17 L
  have hheld : ∀ m, m < 12 → sw_f (fun j => if nt_x a_cache j < w then a_runsHolding j + 1 else a_runsHolding j) a_runsHolding 12 m = hd_f w s a_cache b_held 16 m := by
    intro m hm
    rw [sw_lt hm, hd_16 hw hs0 hs m hm, hh m hm]
  have same : ∀ i, i < en → (a_endings i = lN (cd_c 8 (nt_x a_cache) 12) ↔ b_contents i = lN (cd_c 13 (nt_y b_cache) 16)) := by
    intro i hi
    obtain ⟨ag, ce, r1, r2, r3⟩ := E i hi
    rw [r2, r3]
    exact nd_code hw hs0 hs r1 R
  by_cases k : ∃ i, i < en ∧ a_endings i = lN (cd_c 8 (nt_x a_cache) 12)
  · have k2 : ∃ i, i < en ∧ b_contents i = lN (cd_c 13 (nt_y b_cache) 16) := by
      obtain ⟨i, i1, i2⟩ := k
      exact ⟨i, i1, (same i i1).mp i2⟩
    refine ⟨en, a_endings, b_contents, _, _, by omega, E, hheld, fun post H => hx post ⟨en + 1, ?_⟩, fun post H => hy post ⟨en + 1, ?_⟩⟩
    · rw [← e1] at H
      refine xn_56 hen e1 (fun z => ?_) (fun _ => H) en 0 (by omega) (fun j hj => by omega)
      obtain ⟨i, i1, i2⟩ := k
      exact absurd i2 (z i i1)
    · rw [← e2] at H
      refine yn_238 hen e2 (fun z => ?_) (fun _ => H) en 0 (by omega) (fun j hj => by omega)
      obtain ⟨i, i1, i2⟩ := k2
      exact absurd i2 (z i i1)
  · have k2 : ¬ ∃ i, i < en ∧ b_contents i = lN (cd_c 13 (nt_y b_cache) 16) := fun ⟨i, i1, i2⟩ => k ⟨i, i1, (same i i1).mpr i2⟩
    refine ⟨en + 1, vp_updL a_endings en (lN (cd_c 8 (nt_x a_cache) 12)), vp_updL b_contents en (lN (cd_c 13 (nt_y b_cache) 16)), _, _, Nat.le_refl _, fun i hi => ?_, hheld, fun post H => hx post ⟨en + 1, ?_⟩, fun post H => hy post ⟨en + 1, ?_⟩⟩
    · by_cases z : i = en
      · subst z
        exact ⟨a_cache, b_cache, R, pk_uLs, pk_uLs⟩
      · obtain ⟨ag, ce, r1, r2, r3⟩ := E i (by omega)
        exact ⟨ag, ce, r1, by rw [pk_uLn z]; exact r2, by rw [pk_uLn z]; exact r3⟩
    · exact xn_56 hen e1 (fun _ => H) (fun z => absurd z k) en 0 (by omega) (fun j hj => by omega)
    · exact yn_238 hen e2 (fun _ => H) (fun z => absurd z k2) en 0 (by omega) (fun j hj => by omega)
/-! the next path -/
theorem np_go {f_setBits : Int32} {f_placeCount : Int32} {f_made : Int32} {f_height : Int32} {f_pathCount : Int32} {f_greatestLength : Int32} {f_worstTime : Int32} {f_bestTime : Int32} {f_worstCount : Int32} {f_programBound : Int32} {f_endingCount : Int32} {f_chosen : Int32} {f_time : Int32} {a_kind : Nat → Int32} {a_first : Nat → Int32} {a_second : Nat → Int32} {a_low : Nat → Int32} {a_high : Nat → Int32} {a_parent : Nat → Int32} {a_pathsOf : Nat → Int32} {a_lengthOf : Nat → Int32} {a_choicesOf : Nat → Int32} {a_stack : Nat → Int32} {a_worstPath : Nat → Int32} {a_sureness : Nat → Int32} {a_mostMisses : Nat → Int32} {a_mostHits : Nat → Int32} {a_leastMisses : Nat → Int32} {a_endings : Nat → Int64} {a_runsHolding : Nat → Int32} {a_rounds : Nat → Int32} {a_path : Nat → Int32} {a_pathTop : Nat → Int32} {a_cache : Nat → Int32} {a_runMisses : Nat → Int32} {a_runHits : Nat → Int32} {a_table : Nat → Int32} {a_before : Nat → Int32} {a_behind : Nat → Int32} {h_sets : Int32} {h_places : Int32} {h_made : Int32} {h_depth : Int32} {h_size : Int32} {h_open : Int32} {h_time : Int32} {h_chosen : Int32} {h_kept : Int32} {h_worst : Int32} {h_best : Int32} {h_worstRuns : Int32} {h_worstChoices : Int32} {h_ends : Int32} {h_bound : Int32} {h_under : Int32} {h_back : Int32} {b_sorts : Nat → Int32} {b_lows : Nat → Int32} {b_highs : Nat → Int32} {b_firsts : Nat → Int32} {b_seconds : Nat → Int32} {b_stack : Nat → Int32} {b_pathsOf : Nat → Int32} {b_lengthOf : Nat → Int32} {b_choicesOf : Nat → Int32} {b_todo : Nat → Int32} {b_cache : Nat → Int32} {b_path : Nat → Int32} {b_tops : Nat → Int32} {b_missed : Nat → Int32} {b_struck : Nat → Int32} {b_worstPath : Nat → Int32} {b_mostMissed : Nat → Int32} {b_mostStruck : Nat → Int32} {b_leastMissed : Nat → Int32} {b_held : Nat → Int32} {b_contents : Nat → Int64} {b_ages : Nat → Int32} {b_phase : Nat → Int32} {b_node : Nat → Int32} {b_sum : Nat → Int32} {b_saved : Nat → Int32} {b_greatest : Nat → Int32} {b_met : Nat → Int32} {b_unsure : Nat → Int32} {t : Nat} (ht : t ≤ 20)
    (F : ∀ k, k < t → ∃ a b, a ≤ b ∧ b ≤ 4 ∧ a_path k = nI a ∧ b_path k = nI a ∧ a_pathTop k = nI b ∧ b_tops k = nI b) :
    ∀ d, d ≤ t → (∃ (pa : Nat → Int32), (∀ k, k < 20 → pa k = if k < t then -4 else a_path k) ∧
        (∀ post : Int32 → SX → Prop, post 0 (f_setBits, f_placeCount, f_made, f_height, f_pathCount, f_greatestLength, f_worstTime, f_bestTime, f_worstCount, f_programBound, f_endingCount, f_chosen, f_time, a_kind, a_first, a_second, a_low, a_high, a_parent, a_pathsOf, a_lengthOf, a_choicesOf, a_stack, a_worstPath, a_sureness, a_mostMisses, a_mostHits, a_leastMisses, a_endings, a_runsHolding, a_rounds, pa, a_pathTop, a_cache, a_runMisses, a_runHits, a_table, a_before, a_behind) → wX_toNextPath_7 post f_setBits f_placeCount f_made f_height f_pathCount f_greatestLength f_worstTime f_bestTime f_worstCount f_programBound f_endingCount f_chosen f_time (d + 1) (nI d - 1) a_kind a_first a_second a_low a_high a_parent a_pathsOf a_lengthOf a_choicesOf a_stack a_worstPath a_sureness a_mostMisses a_mostHits a_leastMisses a_endings a_runsHolding a_rounds (fun k => if d ≤ k ∧ k < t then -4 else a_path k) a_pathTop a_cache a_runMisses a_runHits a_table a_before a_behind) ∧
        (∀ post : Int32 → SY → Prop, post 0 (h_sets, h_places, h_made, h_depth, h_size, h_open, h_time, h_chosen, h_kept, h_worst, h_best, h_worstRuns, h_worstChoices, h_ends, h_bound, h_under, h_back, b_sorts, b_lows, b_highs, b_firsts, b_seconds, b_stack, b_pathsOf, b_lengthOf, b_choicesOf, b_todo, b_cache, b_path, b_tops, b_missed, b_struck, b_worstPath, b_mostMissed, b_mostStruck, b_leastMissed, b_held, b_contents, b_ages, b_phase, b_node, b_sum, b_saved, b_greatest, b_met, b_unsure) → wY_nextPath_7 post h_sets h_places h_made h_depth h_size h_open h_time h_chosen h_kept h_worst h_best h_worstRuns h_worstChoices h_ends h_bound h_under h_back b_sorts b_lows b_highs b_firsts b_seconds b_stack b_pathsOf b_lengthOf b_choicesOf b_todo b_cache b_path b_tops b_missed b_struck b_worstPath b_mostMissed b_mostStruck b_leastMissed b_held b_contents b_ages b_phase b_node b_sum b_saved b_greatest b_met b_unsure (d + 1) (nI d - 1))) ∨
      (∃ (s a : Nat) (pa : Nat → Int32), s < d ∧ a_path s = nI a ∧ a ≤ 4 ∧ a_path s < a_pathTop s ∧ (∀ k, pa k = if k = s then nI (a + 1) else if s < k ∧ k < t then -4 else a_path k) ∧
        (∀ post : Int32 → SX → Prop, post 1 (f_setBits, f_placeCount, f_made, f_height, f_pathCount, f_greatestLength, f_worstTime, f_bestTime, f_worstCount, f_programBound, f_endingCount, f_chosen, f_time, a_kind, a_first, a_second, a_low, a_high, a_parent, a_pathsOf, a_lengthOf, a_choicesOf, a_stack, a_worstPath, a_sureness, a_mostMisses, a_mostHits, a_leastMisses, a_endings, a_runsHolding, a_rounds, pa, a_pathTop, a_cache, a_runMisses, a_runHits, a_table, a_before, a_behind) → wX_toNextPath_7 post f_setBits f_placeCount f_made f_height f_pathCount f_greatestLength f_worstTime f_bestTime f_worstCount f_programBound f_endingCount f_chosen f_time (d + 1) (nI d - 1) a_kind a_first a_second a_low a_high a_parent a_pathsOf a_lengthOf a_choicesOf a_stack a_worstPath a_sureness a_mostMisses a_mostHits a_leastMisses a_endings a_runsHolding a_rounds (fun k => if d ≤ k ∧ k < t then -4 else a_path k) a_pathTop a_cache a_runMisses a_runHits a_table a_before a_behind) ∧
        (∀ post : Int32 → SY → Prop, post 1 (h_sets, h_places, h_made, h_depth, h_size, h_open, h_time, h_chosen, nI (s + 1), h_worst, h_best, h_worstRuns, h_worstChoices, h_ends, h_bound, h_under, h_back, b_sorts, b_lows, b_highs, b_firsts, b_seconds, b_stack, b_pathsOf, b_lengthOf, b_choicesOf, b_todo, b_cache, upd b_path s (nI (a + 1)), b_tops, b_missed, b_struck, b_worstPath, b_mostMissed, b_mostStruck, b_leastMissed, b_held, b_contents, b_ages, b_phase, b_node, b_sum, b_saved, b_greatest, b_met, b_unsure) → wY_nextPath_7 post h_sets h_places h_made h_depth h_size h_open h_time h_chosen h_kept h_worst h_best h_worstRuns h_worstChoices h_ends h_bound h_under h_back b_sorts b_lows b_highs b_firsts b_seconds b_stack b_pathsOf b_lengthOf b_choicesOf b_todo b_cache b_path b_tops b_missed b_struck b_worstPath b_mostMissed b_mostStruck b_leastMissed b_held b_contents b_ages b_phase b_node b_sum b_saved b_greatest b_met b_unsure (d + 1) (nI d - 1))) := by
  intro d
  induction d with
  | zero =>
    intro _
    have e : nI 0 - 1 < 0 := by decide
    have e2 : ¬ (0 : Int32) ≤ nI 0 - 1 := by decide
    refine Or.inl ⟨fun k => if 0 ≤ k ∧ k < t then -4 else a_path k, fun k hk => ?_, fun post H => br_t e H, fun post H => br_t e (br_f e2 H)⟩
    dsimp only
    by_cases z : k < t
    · rw [if_pos z, if_pos ⟨Nat.zero_le _, z⟩]
    · rw [if_neg z, if_neg (fun y => z y.2)]
  | succ d ih =>
    intro hd
    obtain ⟨a, b, ab, b4, p1, p2, p3, p4⟩ := F d (by omega)
    have ed : nI (d + 1) - 1 = nI d := nI_pred d
    have c : (nI d).toNatClampNeg = d := nI_clamp (by omega)
    have i20 : vp_in (nI d) 20 := vp_in_nI (by omega) (by omega)
    have i24 : vp_in (nI d) 24 := vp_in_nI (by omega) (by omega)
    have np : ¬ nI d < 0 := nI_pos (by omega)
    have at0 : (fun k => if d + 1 ≤ k ∧ k < t then -4 else a_path k) d = a_path d := by
      show (if d + 1 ≤ d ∧ d < t then -4 else a_path d) = a_path d
      rw [if_neg (by omega)]
    rw [ed]
    by_cases z : a = b
    · have eu : upd (fun k => if d + 1 ≤ k ∧ k < t then -4 else a_path k) d (-4) = (fun k => if d ≤ k ∧ k < t then -4 else a_path k) := by
        funext k
        by_cases y : k = d
        · subst y; rw [us_s, if_pos (by omega)]
        · rw [us_n y]
          show (if d + 1 ≤ k ∧ k < t then -4 else a_path k) = if d ≤ k ∧ k < t then -4 else a_path k
          by_cases x : d + 1 ≤ k ∧ k < t
          · rw [if_pos x, if_pos (by omega)]
          · rw [if_neg x, if_neg (by omega)]
      have em : nI d + (-1) = nI d - 1 := by
        cases d with
        | zero => decide
        | succ d => rw [pk_m1, nI_pred]
      have sx : ∀ (post : Int32 → SX → Prop), wX_toNextPath_7 post f_setBits f_placeCount f_made f_height f_pathCount f_greatestLength f_worstTime f_bestTime f_worstCount f_programBound f_endingCount f_chosen f_time (d + 1) (nI d - 1) a_kind a_first a_second a_low a_high a_parent a_pathsOf a_lengthOf a_choicesOf a_stack a_worstPath a_sureness a_mostMisses a_mostHits a_leastMisses a_endings a_runsHolding a_rounds (fun k => if d ≤ k ∧ k < t then -4 else a_path k) a_pathTop a_cache a_runMisses a_runHits a_table a_before a_behind → wX_toNextPath_7 post f_setBits f_placeCount f_made f_height f_pathCount f_greatestLength f_worstTime f_bestTime f_worstCount f_programBound f_endingCount f_chosen f_time (d + 1 + 1) (nI d) a_kind a_first a_second a_low a_high a_parent a_pathsOf a_lengthOf a_choicesOf a_stack a_worstPath a_sureness a_mostMisses a_mostHits a_leastMisses a_endings a_runsHolding a_rounds (fun k => if d + 1 ≤ k ∧ k < t then -4 else a_path k) a_pathTop a_cache a_runMisses a_runHits a_table a_before a_behind := by
        intro post H
        refine br_f np ⟨i20, i20, ?_⟩
        rw [c, at0, p1, p3]
        refine br_t (nI_le (by omega) (by omega)) ⟨i20, ?_⟩
        rw [eu]
        exact nm_e (nm_r em H)
      have sy : ∀ (post : Int32 → SY → Prop), wY_nextPath_7 post h_sets h_places h_made h_depth h_size h_open h_time h_chosen h_kept h_worst h_best h_worstRuns h_worstChoices h_ends h_bound h_under h_back b_sorts b_lows b_highs b_firsts b_seconds b_stack b_pathsOf b_lengthOf b_choicesOf b_todo b_cache b_path b_tops b_missed b_struck b_worstPath b_mostMissed b_mostStruck b_leastMissed b_held b_contents b_ages b_phase b_node b_sum b_saved b_greatest b_met b_unsure (d + 1) (nI d - 1) → wY_nextPath_7 post h_sets h_places h_made h_depth h_size h_open h_time h_chosen h_kept h_worst h_best h_worstRuns h_worstChoices h_ends h_bound h_under h_back b_sorts b_lows b_highs b_firsts b_seconds b_stack b_pathsOf b_lengthOf b_choicesOf b_todo b_cache b_path b_tops b_missed b_struck b_worstPath b_mostMissed b_mostStruck b_leastMissed b_held b_contents b_ages b_phase b_node b_sum b_saved b_greatest b_met b_unsure (d + 1 + 1) (nI d) := by
        intro post H
        refine br_f np ⟨i24, i24, ?_⟩
        rw [c, p2, p4, z]
        exact br_t rfl (nm_r em H)
      rcases ih (by omega) with ⟨pa, h1, h2, h3⟩ | ⟨s, a', pa, h1, h2, h3, h4, h5, h6, h7⟩
      · exact Or.inl ⟨pa, h1, fun post H => sx post (h2 post H), fun post H => sy post (h3 post H)⟩
      · exact Or.inr ⟨s, a', pa, by omega, h2, h3, h4, h5, fun post H => sx post (h6 post H), fun post H => sy post (h7 post H)⟩
    · refine Or.inr ⟨d, a, upd (fun k => if d + 1 ≤ k ∧ k < t then -4 else a_path k) d (nI (a + 1)), by omega, p1, by omega, ?_, fun k => ?_, fun post H => ?_, fun post H => ?_⟩
      · rw [p1, p3]; exact nI_lt (by omega) (by omega)
      · by_cases y : k = d
        · subst y; rw [us_s, if_pos rfl]
        · rw [us_n y, if_neg y]
          show (if d + 1 ≤ k ∧ k < t then -4 else a_path k) = if d < k ∧ k < t then -4 else a_path k
          rfl
      · refine br_f np ⟨i20, i20, ?_⟩
        rw [c, at0, p1, p3]
        refine br_f (nI_ge (by omega) (by omega)) ⟨i20, i20, ?_⟩
        rw [nI_1]
        exact nm_e H
      · refine br_f np ⟨i24, i24, ?_⟩
        rw [c, p2, p4]
        refine br_f (by rw [nI_eq (by omega) (by omega)]; exact z) (br_t (nI_pos' (by omega)) ⟨i24, i24, ?_⟩)
        rw [c, p2, nI_1]
        exact nm_e (nm_r (nI_1 d) H)
end
section
/-! all runs -/
def nr_R (g : Nat → Nat → Nat) (sz w s en : Nat) (xwt xbt xwc xen : Int32) (xwp xmm xmh xlm : Nat → Int32) (xe : Nat → Int64) (xh : Nat → Int32) (ywt ybt ywr ywc yen : Int32) (ywp ymm ymh ylm : Nat → Int32) (ye : Nat → Int64) (yh : Nat → Int32) : Prop :=
  xwt = ywt ∧ xbt = ybt ∧ nt_W ywt xwc ywr ywc xwp ywp ∧ (ywt = -1 ∨ ∃ z, z ≤ 200000 ∧ ywt = nI z) ∧ nt_A g sz xmm ymm ∧ nt_A g sz xmh ymh ∧ nt_A g sz xlm ylm ∧ xen = nI en ∧ yen = nI en ∧ nt_E w s en xe ye ∧ (∀ m, m < 12 → xh m = yh m)
theorem rn_end {g : Nat → Nat → Nat} {root w s kept R : Nat} {q0 : Nat → Int32} {i t c : Nat} {pa pt ca mi hi ypa yto yca ymi yst : Nat → Int32} (T : pg_t g (root + 1)) (Pr : lm_pre g q0 root kept R)
    (I : rn_I g root w s kept q0 i t c [] pa pt ca mi hi ypa yto yca ymi yst) : kept ≤ t ∧ t ≤ 20 ∧ R ≤ c ∧ c < g 5 root ∧ (∀ k, k < 20 → (k < t → ypa k = pa k) ∧ (¬ k < t → pa k = -4)) ∧
      (∀ k, k < t → ∃ a b, a ≤ b ∧ b ≤ 4 ∧ pa k = nI a ∧ ypa k = nI a ∧ pt k = nI b ∧ yto k = nI b) := by
  obtain ⟨h1, h2, h3, h4, h5, h6, h7, h8, h9⟩ := I
  obtain ⟨d1, d2, d3⟩ := lm_done T (Nat.lt_succ_self root) Pr h5 h1 h2
  dsimp only [lm_k] at h4
  refine ⟨d1, by omega, d2, d3, fun k hk => ⟨fun z => (h6 k hk).1 (Or.inr z), fun z => (h6 k hk).2 (by omega)⟩, fun k hk => ?_⟩
  obtain ⟨a, ha, n, K, c', e, hc⟩ := lm_vis (g := g) (q := pa) (r := root) (s := k) i (by rw [h1]; exact hk)
  obtain ⟨v, v1, v2, v3⟩ := h2 a ha n K k c' e hc
  obtain ⟨t1, t2⟩ := h3 a ha n K k c' e hc
  have hn : n < root + 1 := lm_mems (q := pa) T (Nat.lt_succ_self root) a n (by rw [e]; exact List.mem_cons_self)
  refine ⟨v, g 4 n, v3, ?_, v1, ?_, t1, t2⟩
  · obtain ⟨-, -, N | N | N | N | N⟩ := T n hn <;> omega
  · rw [(h6 k (by omega)).1 (Or.inr hk)]; exact v1
set_option maxHeartbeats 4000000 in
theorem rs_all {g : Nat → Nat → Nat} {root w s : Nat} {f_setBits : Int32} {f_placeCount : Int32} {f_made : Int32} {f_height : Int32} {f_pathCount : Int32} {f_greatestLength : Int32} {f_programBound : Int32} {a_kind : Nat → Int32} {a_first : Nat → Int32} {a_second : Nat → Int32} {a_low : Nat → Int32} {a_high : Nat → Int32} {a_parent : Nat → Int32} {a_pathsOf : Nat → Int32} {a_lengthOf : Nat → Int32} {a_choicesOf : Nat → Int32} {a_stack : Nat → Int32} {a_sureness : Nat → Int32} {a_table : Nat → Int32} {a_before : Nat → Int32} {a_behind : Nat → Int32} {h_sets : Int32} {h_places : Int32} {h_made : Int32} {h_depth : Int32} {h_size : Int32} {h_bound : Int32} {h_under : Int32} {h_back : Int32} {b_sorts : Nat → Int32} {b_lows : Nat → Int32} {b_highs : Nat → Int32} {b_firsts : Nat → Int32} {b_seconds : Nat → Int32} {b_stack : Nat → Int32} {b_pathsOf : Nat → Int32} {b_lengthOf : Nat → Int32} {b_choicesOf : Nat → Int32} {b_ages : Nat → Int32} {b_phase : Nat → Int32} {b_node : Nat → Int32} {b_sum : Nat → Int32} {b_saved : Nat → Int32} {b_greatest : Nat → Int32} {b_met : Nat → Int32} {b_unsure : Nat → Int32}
    (T : pg_t g (root + 1)) (hr : root < 18) (hw0 : 0 < w) (hw : w ≤ 4) (hs0 : 0 < s) (hs : s ≤ 4) (hb : ∀ x y, x < 12 → y < 12 → ((nI x &&& f_setBits) = (nI y &&& f_setBits) ↔ x % s = y % s))
    (hpc : f_placeCount = nI w) (hsets : h_sets = nI s) (hpl : h_places = nI w) (hsz : h_size = nI (root + 1)) (hmd : f_made = nI (root + 1)) (hL : g 6 root ≤ 120) (hC : g 7 root ≤ 20) (hP : g 5 root ≤ 150)
    (XT : ∀ n, n ≤ root → xt_n g a_kind a_first a_second a_low a_high a_parent n) (YT : ∀ n, n ≤ root → yt_n g 0 b_sorts b_lows b_highs b_firsts b_seconds n) :
    ∀ (N R rr kept en : Nat) (f_chosen f_time f_worstTime f_bestTime f_worstCount f_endingCount h_open h_time h_chosen h_kept h_worst h_best h_worstRuns h_worstChoices h_ends : Int32)
      (a_rounds a_path a_pathTop a_cache a_runMisses a_runHits a_worstPath a_mostMisses a_mostHits a_leastMisses a_runsHolding b_todo b_path b_tops b_cache b_missed b_struck b_worstPath b_mostMissed b_mostStruck b_leastMissed b_held : Nat → Int32) (a_endings b_contents : Nat → Int64),
      g 5 root ≤ R + N → rr ≤ R → en ≤ rr → kept ≤ 20 → h_kept = nI kept → lm_pre g a_path root kept R → (∀ k, k < 20 → (k < kept → b_path k = a_path k) ∧ (¬ k < kept → a_path k = -4)) →
      nr_R g (root + 1) w s en f_worstTime f_bestTime f_worstCount f_endingCount a_worstPath a_mostMisses a_mostHits a_leastMisses a_endings a_runsHolding h_worst h_best h_worstRuns h_worstChoices h_ends b_worstPath b_mostMissed b_mostStruck b_leastMissed b_contents b_held →
      ∃ (en' : Nat) (x1 x2 x3 x4 x5 x6 y1 y2 y3 y4 y5 y6 y7 y8 y9 : Int32) (p1 p2 p3 p4 p5 p6 p7 p8 p9 p10 p11 q1 q2 q3 q4 q5 q6 q7 q8 q9 q10 q11 : Nat → Int32) (l1 l2 : Nat → Int64) (F1 F2 : Nat),
        nr_R g (root + 1) w s en' x3 x4 x5 x6 p7 p8 p9 p10 l1 p11 y5 y6 y7 y8 y9 q7 q8 q9 q10 l2 q11 ∧ (∃ z, z ≤ 200000 ∧ y5 = nI z) ∧
        (∀ post : SX → Prop, post (f_setBits, f_placeCount, f_made, f_height, f_pathCount, f_greatestLength, x3, x4, x5, f_programBound, x6, x1, x2, a_kind, a_first, a_second, a_low, a_high, a_parent, a_pathsOf, a_lengthOf, a_choicesOf, a_stack, p7, a_sureness, p8, p9, p10, l1, p11, p1, p2, p3, p4, p5, p6, a_table, a_before, a_behind) → wX_adopt_33 post (nI root) F1 1 (nI rr) f_setBits f_placeCount f_made f_height f_pathCount f_greatestLength f_worstTime f_bestTime f_worstCount f_programBound f_endingCount f_chosen f_time a_kind a_first a_second a_low a_high a_parent a_pathsOf a_lengthOf a_choicesOf a_stack a_worstPath a_sureness a_mostMisses a_mostHits a_leastMisses a_endings a_runsHolding a_rounds a_path a_pathTop a_cache a_runMisses a_runHits a_table a_before a_behind) ∧
        (∀ post : SY → Prop, wpY_findBound (fun u => match u with | (h_sets, h_places, h_made, h_depth, h_size, h_open, h_time, h_chosen, h_kept, h_worst, h_best, h_worstRuns, h_worstChoices, h_ends, h_bound, h_under, h_back, b_sorts, b_lows, b_highs, b_firsts, b_seconds, b_stack, b_pathsOf, b_lengthOf, b_choicesOf, b_todo, b_cache, b_path, b_tops, b_missed, b_struck, b_worstPath, b_mostMissed, b_mostStruck, b_leastMissed, b_held, b_contents, b_ages, b_phase, b_node, b_sum, b_saved, b_greatest, b_met, b_unsure) => post (h_sets, h_places, h_made, h_depth, h_size, h_open, h_time, h_chosen, h_kept, h_worst, h_best, h_worstRuns, h_worstChoices, h_ends, h_bound, h_under, h_back, b_sorts, b_lows, b_highs, b_firsts, b_seconds, b_stack, b_pathsOf, b_lengthOf, b_choicesOf, b_todo, b_cache, b_path, b_tops, b_missed, b_struck, b_worstPath, b_mostMissed, b_mostStruck, b_leastMissed, b_held, b_contents, b_ages, b_phase, b_node, b_sum, b_saved, b_greatest, b_met, b_unsure)) (h_sets, h_places, h_made, h_depth, h_size, y1, y2, y3, y4, y5, y6, y7, y8, y9, h_bound, h_under, h_back, b_sorts, b_lows, b_highs, b_firsts, b_seconds, b_stack, b_pathsOf, b_lengthOf, b_choicesOf, q1, q4, q2, q3, q5, q6, q7, q8, q9, q10, q11, l2, b_ages, b_phase, b_node, b_sum, b_saved, b_greatest, b_met, b_unsure) → wY_workAll_81 post F2 1 h_sets h_places h_made h_depth h_size h_open h_time h_chosen h_kept h_worst h_best h_worstRuns h_worstChoices h_ends h_bound h_under h_back b_sorts b_lows b_highs b_firsts b_seconds b_stack b_pathsOf b_lengthOf b_choicesOf b_todo b_cache b_path b_tops b_missed b_struck b_worstPath b_mostMissed b_mostStruck b_leastMissed b_held b_contents b_ages b_phase b_node b_sum b_saved b_greatest b_met b_unsure) := by
  intro N
  induction N with
  | zero =>
    intro R rr kept en f_chosen f_time f_worstTime f_bestTime f_worstCount f_endingCount h_open h_time h_chosen h_kept h_worst h_best h_worstRuns h_worstChoices h_ends a_rounds a_path a_pathTop a_cache a_runMisses a_runHits a_worstPath a_mostMisses a_mostHits a_leastMisses a_runsHolding b_todo b_path b_tops b_cache b_missed b_struck b_worstPath b_mostMissed b_mostStruck b_leastMissed b_held a_endings b_contents hN hrr hen hk20 hkk Pr hp NR
    exfalso
    have O := on_run (f_setBits := f_setBits) (f_placeCount := f_placeCount) (f_made := f_made) (f_height := f_height) (f_pathCount := f_pathCount) (f_greatestLength := f_greatestLength) (f_worstTime := f_worstTime) (f_bestTime := f_bestTime) (f_worstCount := f_worstCount) (f_programBound := f_programBound) (f_endingCount := f_endingCount) (f_chosen := f_chosen) (f_time := f_time) (a_kind := a_kind) (a_first := a_first) (a_second := a_second) (a_low := a_low) (a_high := a_high) (a_parent := a_parent) (a_pathsOf := a_pathsOf) (a_lengthOf := a_lengthOf) (a_choicesOf := a_choicesOf) (a_stack := a_stack) (a_worstPath := a_worstPath) (a_sureness := a_sureness) (a_mostMisses := a_mostMisses) (a_mostHits := a_mostHits) (a_leastMisses := a_leastMisses) (a_endings := a_endings) (a_runsHolding := a_runsHolding) (a_rounds := a_rounds) (a_path := a_path) (a_pathTop := a_pathTop) (a_cache := a_cache) (a_runMisses := a_runMisses) (a_runHits := a_runHits) (a_table := a_table) (a_before := a_before) (a_behind := a_behind) (h_sets := h_sets) (h_places := h_places) (h_made := h_made) (h_depth := h_depth) (h_size := h_size) (h_open := h_open) (h_time := h_time) (h_chosen := h_chosen) (h_kept := h_kept) (h_worst := h_worst) (h_best := h_best) (h_worstRuns := h_worstRuns) (h_worstChoices := h_worstChoices) (h_ends := h_ends) (h_bound := h_bound) (h_under := h_under) (h_back := h_back) (b_sorts := b_sorts) (b_lows := b_lows) (b_highs := b_highs) (b_firsts := b_firsts) (b_seconds := b_seconds) (b_stack := b_stack) (b_pathsOf := b_pathsOf) (b_lengthOf := b_lengthOf) (b_choicesOf := b_choicesOf) (b_todo := b_todo) (b_cache := b_cache) (b_path := b_path) (b_tops := b_tops) (b_missed := b_missed) (b_struck := b_struck) (b_worstPath := b_worstPath) (b_mostMissed := b_mostMissed) (b_mostStruck := b_mostStruck) (b_leastMissed := b_leastMissed) (b_held := b_held) (b_contents := b_contents) (b_ages := b_ages) (b_phase := b_phase) (b_node := b_node) (b_sum := b_sum) (b_saved := b_saved) (b_greatest := b_greatest) (b_met := b_met) (b_unsure := b_unsure) T hr hw0 hw hs0 hs hb hpc hsets hpl hkk hk20 hsz hL hC XT YT Pr hp
    obtain ⟨i, t, c, tt, rd, pa, pt, ca, mi, hi, ypa, yto, yca, ymi, yst, todo, I, -⟩ := O
    obtain ⟨-, -, d2, d3, -⟩ := rn_end T Pr I
    omega
  | succ N ih =>
    intro R rr kept en f_chosen f_time f_worstTime f_bestTime f_worstCount f_endingCount h_open h_time h_chosen h_kept h_worst h_best h_worstRuns h_worstChoices h_ends a_rounds a_path a_pathTop a_cache a_runMisses a_runHits a_worstPath a_mostMisses a_mostHits a_leastMisses a_runsHolding b_todo b_path b_tops b_cache b_missed b_struck b_worstPath b_mostMissed b_mostStruck b_leastMissed b_held a_endings b_contents hN hrr hen hk20 hkk Pr hp NR
    have O := on_run (f_setBits := f_setBits) (f_placeCount := f_placeCount) (f_made := f_made) (f_height := f_height) (f_pathCount := f_pathCount) (f_greatestLength := f_greatestLength) (f_worstTime := f_worstTime) (f_bestTime := f_bestTime) (f_worstCount := f_worstCount) (f_programBound := f_programBound) (f_endingCount := f_endingCount) (f_chosen := f_chosen) (f_time := f_time) (a_kind := a_kind) (a_first := a_first) (a_second := a_second) (a_low := a_low) (a_high := a_high) (a_parent := a_parent) (a_pathsOf := a_pathsOf) (a_lengthOf := a_lengthOf) (a_choicesOf := a_choicesOf) (a_stack := a_stack) (a_worstPath := a_worstPath) (a_sureness := a_sureness) (a_mostMisses := a_mostMisses) (a_mostHits := a_mostHits) (a_leastMisses := a_leastMisses) (a_endings := a_endings) (a_runsHolding := a_runsHolding) (a_rounds := a_rounds) (a_path := a_path) (a_pathTop := a_pathTop) (a_cache := a_cache) (a_runMisses := a_runMisses) (a_runHits := a_runHits) (a_table := a_table) (a_before := a_before) (a_behind := a_behind) (h_sets := h_sets) (h_places := h_places) (h_made := h_made) (h_depth := h_depth) (h_size := h_size) (h_open := h_open) (h_time := h_time) (h_chosen := h_chosen) (h_kept := h_kept) (h_worst := h_worst) (h_best := h_best) (h_worstRuns := h_worstRuns) (h_worstChoices := h_worstChoices) (h_ends := h_ends) (h_bound := h_bound) (h_under := h_under) (h_back := h_back) (b_sorts := b_sorts) (b_lows := b_lows) (b_highs := b_highs) (b_firsts := b_firsts) (b_seconds := b_seconds) (b_stack := b_stack) (b_pathsOf := b_pathsOf) (b_lengthOf := b_lengthOf) (b_choicesOf := b_choicesOf) (b_todo := b_todo) (b_cache := b_cache) (b_path := b_path) (b_tops := b_tops) (b_missed := b_missed) (b_struck := b_struck) (b_worstPath := b_worstPath) (b_mostMissed := b_mostMissed) (b_mostStruck := b_mostStruck) (b_leastMissed := b_leastMissed) (b_held := b_held) (b_contents := b_contents) (b_ages := b_ages) (b_phase := b_phase) (b_node := b_node) (b_sum := b_sum) (b_saved := b_saved) (b_greatest := b_greatest) (b_met := b_met) (b_unsure := b_unsure) T hr hw0 hw hs0 hs hb hpc hsets hpl hkk hk20 hsz hL hC XT YT Pr hp
    obtain ⟨i, t, c, tt, rd, pa, pt, ca, mi, hi, ypa, yto, yca, ymi, yst, todo, I, htt, OX, OY⟩ := O
    obtain ⟨d1, dt, d2, d3, dp, dF⟩ := rn_end T Pr I
    obtain ⟨n1, n2, n3, n4, n5, n6, n7, n8, n9, n10, n11⟩ := NR
    obtain ⟨wt, xc, yc, yw, xp, yp, zw, W', TX, TY⟩ := nd_time (f_setBits := f_setBits) (f_placeCount := f_placeCount) (f_made := f_made) (f_height := f_height) (f_pathCount := f_pathCount) (f_greatestLength := f_greatestLength) (f_worstTime := f_worstTime) (f_bestTime := f_bestTime) (f_worstCount := f_worstCount) (f_programBound := f_programBound) (f_endingCount := f_endingCount) (f_chosen := nI t) (f_time := nI tt) (a_kind := a_kind) (a_first := a_first) (a_second := a_second) (a_low := a_low) (a_high := a_high) (a_parent := a_parent) (a_pathsOf := a_pathsOf) (a_lengthOf := a_lengthOf) (a_choicesOf := a_choicesOf) (a_stack := a_stack) (a_worstPath := a_worstPath) (a_sureness := a_sureness) (a_mostMisses := a_mostMisses) (a_mostHits := a_mostHits) (a_leastMisses := a_leastMisses) (a_endings := a_endings) (a_runsHolding := a_runsHolding) (a_rounds := rd) (a_path := pa) (a_pathTop := pt) (a_cache := ca) (a_runMisses := mi) (a_runHits := hi) (a_table := a_table) (a_before := a_before) (a_behind := a_behind) (h_sets := h_sets) (h_places := h_places) (h_made := h_made) (h_depth := h_depth) (h_size := h_size) (h_open := 0) (h_time := nI tt) (h_chosen := nI t) (h_kept := h_kept) (h_worst := h_worst) (h_best := h_best) (h_worstRuns := h_worstRuns) (h_worstChoices := h_worstChoices) (h_ends := h_ends) (h_bound := h_bound) (h_under := h_under) (h_back := h_back) (b_sorts := b_sorts) (b_lows := b_lows) (b_highs := b_highs) (b_firsts := b_firsts) (b_seconds := b_seconds) (b_stack := b_stack) (b_pathsOf := b_pathsOf) (b_lengthOf := b_lengthOf) (b_choicesOf := b_choicesOf) (b_todo := todo) (b_cache := yca) (b_path := ypa) (b_tops := yto) (b_missed := ymi) (b_struck := yst) (b_worstPath := b_worstPath) (b_mostMissed := b_mostMissed) (b_mostStruck := b_mostStruck) (b_leastMissed := b_leastMissed) (b_held := b_held) (b_contents := b_contents) (b_ages := b_ages) (b_phase := b_phase) (b_node := b_node) (b_sum := b_sum) (b_saved := b_saved) (b_greatest := b_greatest) (b_met := b_met) (b_unsure := b_unsure) htt dt rfl rfl rfl n1 n4 dp n3
    have hki : ∀ n, n < root + 1 → a_kind n = nI (g 0 n) ∧ g 0 n ≤ 4 := fun n hn => ⟨(XT n (by omega)).1, pg_kd (T n hn)⟩
    have M := I.2.2.2.2.2.2.2.1
    have A1 := nd_A (f := ix_x) (xr := mi) (yr := ymi) (by omega) n5 (fun n hn => (M n hn).1) hki
    have A2 := nd_A (f := ix_x) (xr := hi) (yr := yst) (by omega) n6 (fun n hn => (M n hn).2) hki
    have A3 := nd_A (f := ix_n) (xr := mi) (yr := ymi) (by omega) n7 (fun n hn => (M n hn).1) hki
    obtain ⟨en', xe, ye, xh, yh, E1, E2, E3, EX, EY⟩ := nd_end (f_setBits := f_setBits) (f_placeCount := f_placeCount) (f_made := f_made) (f_height := f_height) (f_pathCount := f_pathCount) (f_greatestLength := f_greatestLength) (f_worstTime := wt) (f_bestTime := ix_n (nI tt) f_bestTime) (f_worstCount := xc) (f_programBound := f_programBound) (f_endingCount := f_endingCount) (f_chosen := nI t) (f_time := nI tt) (a_kind := a_kind) (a_first := a_first) (a_second := a_second) (a_low := a_low) (a_high := a_high) (a_parent := a_parent) (a_pathsOf := a_pathsOf) (a_lengthOf := a_lengthOf) (a_choicesOf := a_choicesOf) (a_stack := a_stack) (a_worstPath := xp) (a_sureness := a_sureness) (a_mostMisses := sw_f (fun j => if a_kind j = 0 then ix_x (a_mostMisses j) (mi j) else a_mostMisses j) a_mostMisses (root + 1)) (a_mostHits := sw_f (fun j => if a_kind j = 0 then ix_x (a_mostHits j) (hi j) else a_mostHits j) a_mostHits (root + 1)) (a_leastMisses := sw_f (fun j => if a_kind j = 0 then ix_n (a_leastMisses j) (mi j) else a_leastMisses j) a_leastMisses (root + 1)) (a_endings := a_endings) (a_runsHolding := a_runsHolding) (a_rounds := rd) (a_path := pa) (a_pathTop := pt) (a_cache := ca) (a_runMisses := mi) (a_runHits := hi) (a_table := a_table) (a_before := a_before) (a_behind := a_behind) (h_sets := h_sets) (h_places := h_places) (h_made := h_made) (h_depth := h_depth) (h_size := h_size) (h_open := 0) (h_time := nI tt) (h_chosen := nI t) (h_kept := h_kept) (h_worst := wt) (h_best := ix_n h_best (nI tt)) (h_worstRuns := yc) (h_worstChoices := yw) (h_ends := h_ends) (h_bound := h_bound) (h_under := h_under) (h_back := h_back) (b_sorts := b_sorts) (b_lows := b_lows) (b_highs := b_highs) (b_firsts := b_firsts) (b_seconds := b_seconds) (b_stack := b_stack) (b_pathsOf := b_pathsOf) (b_lengthOf := b_lengthOf) (b_choicesOf := b_choicesOf) (b_todo := todo) (b_cache := yca) (b_path := ypa) (b_tops := yto) (b_missed := ymi) (b_struck := yst) (b_worstPath := yp) (b_mostMissed := sw_f (fun j => ix_x (b_mostMissed j) (ymi j)) b_mostMissed 18) (b_mostStruck := sw_f (fun j => ix_x (b_mostStruck j) (yst j)) b_mostStruck 18) (b_leastMissed := sw_f (fun j => ix_n (b_leastMissed j) (ymi j)) b_leastMissed 18) (b_held := b_held) (b_contents := b_contents) (b_ages := b_ages) (b_phase := b_phase) (b_node := b_node) (b_sum := b_sum) (b_saved := b_saved) (b_greatest := b_greatest) (b_met := b_met) (b_unsure := b_unsure) hw hs0 hs hpc I.2.2.2.2.2.2.1 (by omega) n8 n9 n10 n11
    have NR' : nr_R g (root + 1) w s en' wt (ix_n (nI tt) f_bestTime) xc (nI en') xp (sw_f (fun j => if a_kind j = 0 then ix_x (a_mostMisses j) (mi j) else a_mostMisses j) a_mostMisses (root + 1)) (sw_f (fun j => if a_kind j = 0 then ix_x (a_mostHits j) (hi j) else a_mostHits j) a_mostHits (root + 1)) (sw_f (fun j => if a_kind j = 0 then ix_n (a_leastMisses j) (mi j) else a_leastMisses j) a_leastMisses (root + 1)) xe xh wt (ix_n h_best (nI tt)) yc yw (nI en') yp (sw_f (fun j => ix_x (b_mostMissed j) (ymi j)) b_mostMissed 18) (sw_f (fun j => ix_x (b_mostStruck j) (yst j)) b_mostStruck 18) (sw_f (fun j => ix_n (b_leastMissed j) (ymi j)) b_leastMissed 18) ye yh :=
      ⟨rfl, by rw [ix_c, n2], W', Or.inr zw, A1, A2, A3, rfl, rfl, E2, E3⟩
    have pe : (fun k => if t ≤ k ∧ k < t then -4 else pa k) = pa := by
      funext k
      rw [if_neg (by omega)]
    have cX : ∀ (Q : Int32 → SX → Prop), (∃ n7 : Nat, wX_toNextPath_7 Q f_setBits f_placeCount f_made f_height f_pathCount f_greatestLength wt (ix_n (nI tt) f_bestTime) xc f_programBound (nI en') (nI t) (nI tt) n7 (nI t - 1) a_kind a_first a_second a_low a_high a_parent a_pathsOf a_lengthOf a_choicesOf a_stack xp a_sureness (sw_f (fun j => if a_kind j = 0 then ix_x (a_mostMisses j) (mi j) else a_mostMisses j) a_mostMisses (root + 1)) (sw_f (fun j => if a_kind j = 0 then ix_x (a_mostHits j) (hi j) else a_mostHits j) a_mostHits (root + 1)) (sw_f (fun j => if a_kind j = 0 then ix_n (a_leastMisses j) (mi j) else a_leastMisses j) a_leastMisses (root + 1)) xe xh rd pa pt ca mi hi a_table a_before a_behind) →
        wpX_doRun (fun u => match u with | (f_setBits, f_placeCount, f_made, f_height, f_pathCount, f_greatestLength, f_worstTime, f_bestTime, f_worstCount, f_programBound, f_endingCount, f_chosen, f_time, a_kind, a_first, a_second, a_low, a_high, a_parent, a_pathsOf, a_lengthOf, a_choicesOf, a_stack, a_worstPath, a_sureness, a_mostMisses, a_mostHits, a_leastMisses, a_endings, a_runsHolding, a_rounds, a_path, a_pathTop, a_cache, a_runMisses, a_runHits, a_table, a_before, a_behind) => wpX_noteTime (fun u => match u with | (f_setBits, f_placeCount, f_made, f_height, f_pathCount, f_greatestLength, f_worstTime, f_bestTime, f_worstCount, f_programBound, f_endingCount, f_chosen, f_time, a_kind, a_first, a_second, a_low, a_high, a_parent, a_pathsOf, a_lengthOf, a_choicesOf, a_stack, a_worstPath, a_sureness, a_mostMisses, a_mostHits, a_leastMisses, a_endings, a_runsHolding, a_rounds, a_path, a_pathTop, a_cache, a_runMisses, a_runHits, a_table, a_before, a_behind) => wpX_noteAccesses (fun u => match u with | (f_setBits, f_placeCount, f_made, f_height, f_pathCount, f_greatestLength, f_worstTime, f_bestTime, f_worstCount, f_programBound, f_endingCount, f_chosen, f_time, a_kind, a_first, a_second, a_low, a_high, a_parent, a_pathsOf, a_lengthOf, a_choicesOf, a_stack, a_worstPath, a_sureness, a_mostMisses, a_mostHits, a_leastMisses, a_endings, a_runsHolding, a_rounds, a_path, a_pathTop, a_cache, a_runMisses, a_runHits, a_table, a_before, a_behind) => wpX_noteEnding (fun u => match u with | (f_setBits, f_placeCount, f_made, f_height, f_pathCount, f_greatestLength, f_worstTime, f_bestTime, f_worstCount, f_programBound, f_endingCount, f_chosen, f_time, a_kind, a_first, a_second, a_low, a_high, a_parent, a_pathsOf, a_lengthOf, a_choicesOf, a_stack, a_worstPath, a_sureness, a_mostMisses, a_mostHits, a_leastMisses, a_endings, a_runsHolding, a_rounds, a_path, a_pathTop, a_cache, a_runMisses, a_runHits, a_table, a_before, a_behind) => wpX_toNextPath Q (f_setBits, f_placeCount, f_made, f_height, f_pathCount, f_greatestLength, f_worstTime, f_bestTime, f_worstCount, f_programBound, f_endingCount, f_chosen, f_time, a_kind, a_first, a_second, a_low, a_high, a_parent, a_pathsOf, a_lengthOf, a_choicesOf, a_stack, a_worstPath, a_sureness, a_mostMisses, a_mostHits, a_leastMisses, a_endings, a_runsHolding, a_rounds, a_path, a_pathTop, a_cache, a_runMisses, a_runHits, a_table, a_before, a_behind)) (f_setBits, f_placeCount, f_made, f_height, f_pathCount, f_greatestLength, f_worstTime, f_bestTime, f_worstCount, f_programBound, f_endingCount, f_chosen, f_time, a_kind, a_first, a_second, a_low, a_high, a_parent, a_pathsOf, a_lengthOf, a_choicesOf, a_stack, a_worstPath, a_sureness, a_mostMisses, a_mostHits, a_leastMisses, a_endings, a_runsHolding, a_rounds, a_path, a_pathTop, a_cache, a_runMisses, a_runHits, a_table, a_before, a_behind)) (f_setBits, f_placeCount, f_made, f_height, f_pathCount, f_greatestLength, f_worstTime, f_bestTime, f_worstCount, f_programBound, f_endingCount, f_chosen, f_time, a_kind, a_first, a_second, a_low, a_high, a_parent, a_pathsOf, a_lengthOf, a_choicesOf, a_stack, a_worstPath, a_sureness, a_mostMisses, a_mostHits, a_leastMisses, a_endings, a_runsHolding, a_rounds, a_path, a_pathTop, a_cache, a_runMisses, a_runHits, a_table, a_before, a_behind)) (f_setBits, f_placeCount, f_made, f_height, f_pathCount, f_greatestLength, f_worstTime, f_bestTime, f_worstCount, f_programBound, f_endingCount, f_chosen, f_time, a_kind, a_first, a_second, a_low, a_high, a_parent, a_pathsOf, a_lengthOf, a_choicesOf, a_stack, a_worstPath, a_sureness, a_mostMisses, a_mostHits, a_leastMisses, a_endings, a_runsHolding, a_rounds, a_path, a_pathTop, a_cache, a_runMisses, a_runHits, a_table, a_before, a_behind)) (f_setBits, f_placeCount, f_made, f_height, f_pathCount, f_greatestLength, f_worstTime, f_bestTime, f_worstCount, f_programBound, f_endingCount, f_chosen, f_time, a_kind, a_first, a_second, a_low, a_high, a_parent, a_pathsOf, a_lengthOf, a_choicesOf, a_stack, a_worstPath, a_sureness, a_mostMisses, a_mostHits, a_leastMisses, a_endings, a_runsHolding, a_rounds, a_path, a_pathTop, a_cache, a_runMisses, a_runHits, a_table, a_before, a_behind) (nI root) := by
      intro Q H
      exact OX _ (TX _ (nd_xacc (by omega) hmd (EX _ (nm_e H))))
    have cY : ∀ (Q : Int32 → SY → Prop), (∃ n7 : Nat, wY_nextPath_7 Q h_sets h_places h_made h_depth h_size 0 (nI tt) (nI t) h_kept wt (ix_n h_best (nI tt)) yc yw (nI en') h_bound h_under h_back b_sorts b_lows b_highs b_firsts b_seconds b_stack b_pathsOf b_lengthOf b_choicesOf todo yca ypa yto ymi yst yp (sw_f (fun j => ix_x (b_mostMissed j) (ymi j)) b_mostMissed 18) (sw_f (fun j => ix_x (b_mostStruck j) (yst j)) b_mostStruck 18) (sw_f (fun j => ix_n (b_leastMissed j) (ymi j)) b_leastMissed 18) yh ye b_ages b_phase b_node b_sum b_saved b_greatest b_met b_unsure n7 (nI t - 1)) →
        wpY_run (fun u => match u with | (h_sets, h_places, h_made, h_depth, h_size, h_open, h_time, h_chosen, h_kept, h_worst, h_best, h_worstRuns, h_worstChoices, h_ends, h_bound, h_under, h_back, b_sorts, b_lows, b_highs, b_firsts, b_seconds, b_stack, b_pathsOf, b_lengthOf, b_choicesOf, b_todo, b_cache, b_path, b_tops, b_missed, b_struck, b_worstPath, b_mostMissed, b_mostStruck, b_leastMissed, b_held, b_contents, b_ages, b_phase, b_node, b_sum, b_saved, b_greatest, b_met, b_unsure) => wpY_note (fun u => match u with | (h_sets, h_places, h_made, h_depth, h_size, h_open, h_time, h_chosen, h_kept, h_worst, h_best, h_worstRuns, h_worstChoices, h_ends, h_bound, h_under, h_back, b_sorts, b_lows, b_highs, b_firsts, b_seconds, b_stack, b_pathsOf, b_lengthOf, b_choicesOf, b_todo, b_cache, b_path, b_tops, b_missed, b_struck, b_worstPath, b_mostMissed, b_mostStruck, b_leastMissed, b_held, b_contents, b_ages, b_phase, b_node, b_sum, b_saved, b_greatest, b_met, b_unsure) => wpY_nextPath Q (h_sets, h_places, h_made, h_depth, h_size, h_open, h_time, h_chosen, h_kept, h_worst, h_best, h_worstRuns, h_worstChoices, h_ends, h_bound, h_under, h_back, b_sorts, b_lows, b_highs, b_firsts, b_seconds, b_stack, b_pathsOf, b_lengthOf, b_choicesOf, b_todo, b_cache, b_path, b_tops, b_missed, b_struck, b_worstPath, b_mostMissed, b_mostStruck, b_leastMissed, b_held, b_contents, b_ages, b_phase, b_node, b_sum, b_saved, b_greatest, b_met, b_unsure)) (h_sets, h_places, h_made, h_depth, h_size, h_open, h_time, h_chosen, h_kept, h_worst, h_best, h_worstRuns, h_worstChoices, h_ends, h_bound, h_under, h_back, b_sorts, b_lows, b_highs, b_firsts, b_seconds, b_stack, b_pathsOf, b_lengthOf, b_choicesOf, b_todo, b_cache, b_path, b_tops, b_missed, b_struck, b_worstPath, b_mostMissed, b_mostStruck, b_leastMissed, b_held, b_contents, b_ages, b_phase, b_node, b_sum, b_saved, b_greatest, b_met, b_unsure)) (h_sets, h_places, h_made, h_depth, h_size, h_open, h_time, h_chosen, h_kept, h_worst, h_best, h_worstRuns, h_worstChoices, h_ends, h_bound, h_under, h_back, b_sorts, b_lows, b_highs, b_firsts, b_seconds, b_stack, b_pathsOf, b_lengthOf, b_choicesOf, b_todo, b_cache, b_path, b_tops, b_missed, b_struck, b_worstPath, b_mostMissed, b_mostStruck, b_leastMissed, b_held, b_contents, b_ages, b_phase, b_node, b_sum, b_saved, b_greatest, b_met, b_unsure) := by
      intro Q H
      exact OY _ (TY _ (nd_y81 (EY _ (nm_e H))))
    have hr150 : ¬ (150 : Int32) ≤ nI rr := nI_ge (b := 150) (by omega) (by omega)
    have one : ¬ (1 : Int32) = 0 := by decide
    rcases np_go (f_setBits := f_setBits) (f_placeCount := f_placeCount) (f_made := f_made) (f_height := f_height) (f_pathCount := f_pathCount) (f_greatestLength := f_greatestLength) (f_worstTime := wt) (f_bestTime := ix_n (nI tt) f_bestTime) (f_worstCount := xc) (f_programBound := f_programBound) (f_endingCount := nI en') (f_chosen := nI t) (f_time := nI tt) (a_kind := a_kind) (a_first := a_first) (a_second := a_second) (a_low := a_low) (a_high := a_high) (a_parent := a_parent) (a_pathsOf := a_pathsOf) (a_lengthOf := a_lengthOf) (a_choicesOf := a_choicesOf) (a_stack := a_stack) (a_worstPath := xp) (a_sureness := a_sureness) (a_mostMisses := sw_f (fun j => if a_kind j = 0 then ix_x (a_mostMisses j) (mi j) else a_mostMisses j) a_mostMisses (root + 1)) (a_mostHits := sw_f (fun j => if a_kind j = 0 then ix_x (a_mostHits j) (hi j) else a_mostHits j) a_mostHits (root + 1)) (a_leastMisses := sw_f (fun j => if a_kind j = 0 then ix_n (a_leastMisses j) (mi j) else a_leastMisses j) a_leastMisses (root + 1)) (a_endings := xe) (a_runsHolding := xh) (a_rounds := rd) (a_path := pa) (a_pathTop := pt) (a_cache := ca) (a_runMisses := mi) (a_runHits := hi) (a_table := a_table) (a_before := a_before) (a_behind := a_behind) (h_sets := h_sets) (h_places := h_places) (h_made := h_made) (h_depth := h_depth) (h_size := h_size) (h_open := 0) (h_time := nI tt) (h_chosen := nI t) (h_kept := h_kept) (h_worst := wt) (h_best := ix_n h_best (nI tt)) (h_worstRuns := yc) (h_worstChoices := yw) (h_ends := nI en') (h_bound := h_bound) (h_under := h_under) (h_back := h_back) (b_sorts := b_sorts) (b_lows := b_lows) (b_highs := b_highs) (b_firsts := b_firsts) (b_seconds := b_seconds) (b_stack := b_stack) (b_pathsOf := b_pathsOf) (b_lengthOf := b_lengthOf) (b_choicesOf := b_choicesOf) (b_todo := todo) (b_cache := yca) (b_path := ypa) (b_tops := yto) (b_missed := ymi) (b_struck := yst) (b_worstPath := yp) (b_mostMissed := sw_f (fun j => ix_x (b_mostMissed j) (ymi j)) b_mostMissed 18) (b_mostStruck := sw_f (fun j => ix_x (b_mostStruck j) (yst j)) b_mostStruck 18) (b_leastMissed := sw_f (fun j => ix_n (b_leastMissed j) (ymi j)) b_leastMissed 18) (b_held := yh) (b_contents := ye) (b_ages := b_ages) (b_phase := b_phase) (b_node := b_node) (b_sum := b_sum) (b_saved := b_saved) (b_greatest := b_greatest) (b_met := b_met) (b_unsure := b_unsure) dt dF t (Nat.le_refl _) with ⟨pa2, h1, h2, h3⟩ | ⟨s', a, pa2, h1, h2, h3, h4, h5, h6, h7⟩
    · rw [pe] at h2
      refine ⟨en', nI t, nI tt, wt, ix_n (nI tt) f_bestTime, xc, nI en', 0, nI tt, nI t, h_kept, wt, ix_n h_best (nI tt), yc, yw, nI en', rd, pa2, pt, ca, mi, hi, xp, sw_f (fun j => if a_kind j = 0 then ix_x (a_mostMisses j) (mi j) else a_mostMisses j) a_mostMisses (root + 1), sw_f (fun j => if a_kind j = 0 then ix_x (a_mostHits j) (hi j) else a_mostHits j) a_mostHits (root + 1), sw_f (fun j => if a_kind j = 0 then ix_n (a_leastMisses j) (mi j) else a_leastMisses j) a_leastMisses (root + 1), xh, todo, ypa, yto, yca, ymi, yst, yp, sw_f (fun j => ix_x (b_mostMissed j) (ymi j)) b_mostMissed 18, sw_f (fun j => ix_x (b_mostStruck j) (yst j)) b_mostStruck 18, sw_f (fun j => ix_n (b_leastMissed j) (ymi j)) b_leastMissed 18, yh, xe, ye, 2, 2, NR', zw, fun post H => ?_, fun post H => ?_⟩
      · exact br_f one (br_f hr150 (cX _ ⟨t + 1, h2 _ (nm_e (br_t rfl H))⟩))
      · exact br_f one (cY _ ⟨t + 1, h3 _ (br_t rfl H)⟩)
    · rw [pe] at h6
      have Pr' : lm_pre g pa2 root (s' + 1) (c + 1) := by
        refine lm_next (tp := pt) T (Nat.lt_succ_self root) I.1 I.2.1 (fun a ha n K t c e hc => (I.2.2.1 a ha n K t c e hc).1) h1 h2 ?_ (by omega) h4 (fun k hk => ?_)
        · rw [h5, if_pos rfl]
        · rw [h5, if_neg (by omega), if_neg (by omega)]
      have hp' : ∀ k, k < 20 → (k < s' + 1 → upd ypa s' (nI (a + 1)) k = pa2 k) ∧ (¬ k < s' + 1 → pa2 k = -4) := by
        intro k hk
        rw [h5]
        refine ⟨fun z => ?_, fun z => ?_⟩
        · by_cases y : k = s'
          · subst y; rw [us_s, if_pos rfl]
          · rw [us_n y, if_neg y, if_neg (by omega)]; exact (dp k hk).1 (by omega)
        · rw [if_neg (by omega)]
          by_cases y : k < t
          · rw [if_pos ⟨by omega, y⟩]
          · rw [if_neg (by omega)]; exact (dp k hk).2 y
      obtain ⟨en2, x1, x2, x3, x4, x5, x6, y1, y2, y3, y4, y5, y6, y7, y8, y9, p1, p2, p3, p4, p5, p6, p7, p8, p9, p10, p11, q1, q2, q3, q4, q5, q6, q7, q8, q9, q10, q11, l1, l2, F1, F2, K1, K2, K3, K4⟩ := ih (c + 1) (rr + 1) (s' + 1) en' (nI t) (nI tt) wt (ix_n (nI tt) f_bestTime) xc (nI en') 0 (nI tt) (nI t) (nI (s' + 1)) wt (ix_n h_best (nI tt)) yc yw (nI en') rd pa2 pt ca mi hi xp (sw_f (fun j => if a_kind j = 0 then ix_x (a_mostMisses j) (mi j) else a_mostMisses j) a_mostMisses (root + 1)) (sw_f (fun j => if a_kind j = 0 then ix_x (a_mostHits j) (hi j) else a_mostHits j) a_mostHits (root + 1)) (sw_f (fun j => if a_kind j = 0 then ix_n (a_leastMisses j) (mi j) else a_leastMisses j) a_leastMisses (root + 1)) xh todo (upd ypa s' (nI (a + 1))) yto yca ymi yst yp (sw_f (fun j => ix_x (b_mostMissed j) (ymi j)) b_mostMissed 18) (sw_f (fun j => ix_x (b_mostStruck j) (yst j)) b_mostStruck 18) (sw_f (fun j => ix_n (b_leastMissed j) (ymi j)) b_leastMissed 18) yh xe ye (by omega) (by omega) (by omega) (by omega) rfl Pr' hp' NR'
      refine ⟨en2, x1, x2, x3, x4, x5, x6, y1, y2, y3, y4, y5, y6, y7, y8, y9, p1, p2, p3, p4, p5, p6, p7, p8, p9, p10, p11, q1, q2, q3, q4, q5, q6, q7, q8, q9, q10, q11, l1, l2, F1 + 1, F2 + 1, K1, K2, fun post H => ?_, fun post H => ?_⟩
      · exact br_f one (br_f hr150 (cX _ ⟨t + 1, h6 _ (nm_r (nI_1 rr) (K3 post H))⟩))
      · exact br_f one (cY _ ⟨t + 1, h7 _ (K4 post H)⟩)
end
section
/-! the walk over the sure tables, X and Y step by step -/
theorem ix_nat {a b : Nat} (ha : a < 2 ^ 31) (hb : b < 2 ^ 31) : ix_x (nI a) (nI b) = nI (max a b) := by
  unfold ix_x
  by_cases h : a ≤ b
  · rw [if_pos (nI_le h hb), Nat.max_eq_right h]
  · rw [if_neg (nI_ge (by omega) ha), Nat.max_eq_left (by omega)]
theorem ix_0 {a : Nat} (ha : a < 2 ^ 31) : ix_x (nI a) 0 = nI a := by
  rw [show (0 : Int32) = nI 0 from rfl, ix_nat ha (by omega), Nat.max_eq_left (Nat.zero_le _)]
theorem ix_s {a b : Nat} (ha : a < 2 ^ 31) (hb : b < 2 ^ 31) : ix_x (nI a) (nI b) = ix_x (nI b) (nI a) := by
  rw [ix_nat ha hb, ix_nat hb ha, Nat.max_comm]
def ag_R (w : Nat) (tb ag : Nat → Int32) : Prop := ∀ m, m < 12 → tb m = ag m ∧ ∃ a, a ≤ w ∧ ag m = nI a
def sr_R (g : Nat → Nat → Nat) (sz : Nat) (su me un : Nat → Int32) : Prop := ∀ n, n < 18 → (n < sz ∧ g 0 n = 0 → (me n = 0 ∧ un n = 0 ∧ su n = 2) ∨ (me n = 1 ∧ un n = 0 ∧ su n = 1) ∨ (me n = 1 ∧ un n = 1 ∧ su n = 0)) ∧ (¬ (n < sz ∧ g 0 n = 0) → su n = -4)
theorem sr_hit {g : Nat → Nat → Nat} {sz n : Nat} {su me un : Nat → Int32} (h : sr_R g sz su me un) (hn : n < sz) (h18 : n < 18) (k : g 0 n = 0) : sr_R g sz (if su n = 2 then upd su n 1 else su) (upd me n 1) un := by
  intro x hx
  obtain ⟨h1, h2⟩ := h x hx
  by_cases e : x = n
  · subst e
    rw [us_s]
    refine ⟨fun _ => ?_, fun z => absurd ⟨hn, k⟩ z⟩
    rcases h1 ⟨hn, k⟩ with ⟨a, b, c⟩ | ⟨a, b, c⟩ | ⟨a, b, c⟩
    · rw [if_pos c, us_s]; exact Or.inr (Or.inl ⟨rfl, b, rfl⟩)
    · rw [if_neg (by rw [c]; decide)]; exact Or.inr (Or.inl ⟨rfl, b, c⟩)
    · rw [if_neg (by rw [c]; decide)]; exact Or.inr (Or.inr ⟨rfl, b, c⟩)
  · rw [us_n e]
    have es : (if su n = 2 then upd su n 1 else su) x = su x := by
      by_cases z : su n = 2
      · rw [if_pos z, us_n e]
      · rw [if_neg z]
    rw [es]
    exact ⟨h1, h2⟩
theorem sr_miss {g : Nat → Nat → Nat} {sz n : Nat} {su me un : Nat → Int32} (h : sr_R g sz su me un) (hn : n < sz) (h18 : n < 18) (k : g 0 n = 0) : sr_R g sz (upd su n 0) (upd me n 1) (upd un n 1) := by
  intro x hx
  obtain ⟨h1, h2⟩ := h x hx
  by_cases e : x = n
  · subst e
    rw [us_s, us_s, us_s]
    exact ⟨fun _ => Or.inr (Or.inr ⟨rfl, rfl, rfl⟩), fun z => absurd ⟨hn, k⟩ z⟩
  · rw [us_n e, us_n e, us_n e]
    exact ⟨h1, h2⟩
/-- rows raised -/
theorem rr_z {be tb : Nat → Int32} {p x : Nat} (hz : fr_z be p) (hx : x < 13) {v : Nat} (hv : v < 2 ^ 31) (ht : tb x = nI v) : sr_f (p * 13) (fun x => ix_x (tb x) (be (p * 13 + x))) be 13 (p * 13 + x) = nI v := by
  rw [sr_in hx, ht, hz x hx, ix_0 hv]
theorem rr_m {be tb : Nat → Int32} {p x : Nat} (hx : x < 13) {v u : Nat} (hv : v < 2 ^ 31) (hu : u < 2 ^ 31) (ht : tb x = nI v) (hb : be (p * 13 + x) = nI u) : sr_f (p * 13) (fun x => ix_x (tb x) (be (p * 13 + x))) be 13 (p * 13 + x) = nI (max v u) := by
  rw [sr_in hx, ht, hb, ix_nat hv hu]
theorem rr_gm {gr ag : Nat → Int32} {j x : Nat} (hx : x < 12) {v u : Nat} (hv : v < 2 ^ 31) (hu : u < 2 ^ 31) (ht : ag x = nI v) (hb : gr (12 * j + x) = nI u) : sr_f (12 * j) (fun x => ix_x (gr (12 * j + x)) (ag x)) gr 12 (12 * j + x) = nI (max v u) := by
  rw [sr_in hx, ht, hb, ix_nat hu hv, Nat.max_comm]
theorem rr_rz {w : Nat} {be gr tb ag : Nat → Int32} {p j : Nat} (hw : w ≤ 4) (A : ag_R w tb ag) (hz : fr_z be p) : fr_r w (sr_f (p * 13) (fun x => ix_x (tb x) (be (p * 13 + x))) be 13) (sr_f (12 * j) ag gr 12) p j := by
  intro m hm
  obtain ⟨a1, a, a2, a3⟩ := A m hm
  rw [sr_in hm, rr_z hz (by omega) (v := a) (by omega) (by rw [a1, a3])]
  exact ⟨a3.symm, a, a2, a3⟩
theorem rr_rm {w : Nat} {be gr tb ag : Nat → Int32} {p j : Nat} (hw : w ≤ 4) (A : ag_R w tb ag) (hr : fr_r w be gr p j) : fr_r w (sr_f (p * 13) (fun x => ix_x (tb x) (be (p * 13 + x))) be 13) (sr_f (12 * j) (fun x => ix_x (gr (12 * j + x)) (ag x)) gr 12) p j := by
  intro m hm
  obtain ⟨a1, a, a2, a3⟩ := A m hm
  obtain ⟨b1, b, b2, b3⟩ := hr m hm
  rw [rr_m (v := a) (u := b) (by omega) (by omega) (by omega) (by rw [a1, a3]) (by rw [b1, b3]), rr_gm (v := a) (u := b) hm (by omega) (by omega) a3 b3]
  exact ⟨rfl, max a b, by omega, rfl⟩
theorem ag_row {w : Nat} {be gr tb ag : Nat → Int32} {p j : Nat} (hr : fr_r w be gr p j) : ag_R w (sw_f (fun x => be (p * 13 + x)) tb 13) (sw_f (fun x => gr (12 * j + x)) ag 12) := by
  intro m hm
  rw [sw_lt (by omega), sw_lt hm]
  exact hr m hm
def tb_G (g : Nat → Nat → Nat) (root w : Nat) (f_setBits : Int32) (f_placeCount : Int32) (f_made : Int32) (f_height : Int32) (f_pathCount : Int32) (f_greatestLength : Int32) (f_worstTime : Int32) (f_bestTime : Int32) (f_worstCount : Int32) (f_programBound : Int32) (f_endingCount : Int32) (f_chosen : Int32) (f_time : Int32) (a_kind : Nat → Int32) (a_first : Nat → Int32) (a_second : Nat → Int32) (a_low : Nat → Int32) (a_high : Nat → Int32) (a_parent : Nat → Int32) (a_pathsOf : Nat → Int32) (a_lengthOf : Nat → Int32) (a_choicesOf : Nat → Int32) (a_stack : Nat → Int32) (a_worstPath : Nat → Int32) (a_sureness : Nat → Int32) (a_mostMisses : Nat → Int32) (a_mostHits : Nat → Int32) (a_leastMisses : Nat → Int32) (a_endings : Nat → Int64) (a_runsHolding : Nat → Int32) (a_rounds : Nat → Int32) (a_path : Nat → Int32) (a_pathTop : Nat → Int32) (a_cache : Nat → Int32) (a_runMisses : Nat → Int32) (a_runHits : Nat → Int32) (a_table : Nat → Int32) (a_before : Nat → Int32) (a_behind : Nat → Int32) (h_sets : Int32) (h_places : Int32) (h_made : Int32) (h_depth : Int32) (h_size : Int32) (h_bound : Int32) (h_under : Int32) (h_back : Int32) (b_sorts : Nat → Int32) (b_lows : Nat → Int32) (b_highs : Nat → Int32) (b_firsts : Nat → Int32) (b_seconds : Nat → Int32) (b_stack : Nat → Int32) (b_pathsOf : Nat → Int32) (b_lengthOf : Nat → Int32) (b_choicesOf : Nat → Int32) (b_ages : Nat → Int32) (b_phase : Nat → Int32) (b_node : Nat → Int32) (b_sum : Nat → Int32) (b_saved : Nat → Int32) (b_greatest : Nat → Int32) (b_met : Nat → Int32) (b_unsure : Nat → Int32) (at_ : Int32) (st : Nat) : Prop :=
  ∃ (bd : Nat) (rd tb bf be sn ag nd ph sm sv gr me us : Nat → Int32) (F1 F2 : Nat), tb 12 = nI bd ∧ sr_R g (root + 1) sn me us ∧
    (∀ post : SX → Prop, wX_walkTables_75 post f_setBits f_placeCount f_made f_height f_pathCount f_greatestLength f_worstTime f_bestTime f_worstCount f_programBound f_endingCount f_chosen f_time a_kind a_first a_second a_low a_high a_parent a_pathsOf a_lengthOf a_choicesOf a_stack a_worstPath sn a_mostMisses a_mostHits a_leastMisses a_endings a_runsHolding rd a_path a_pathTop a_cache a_runMisses a_runHits tb bf be → wX_walkTables_36 post (nI root) F1 at_ (nI st) f_setBits f_placeCount f_made f_height f_pathCount f_greatestLength f_worstTime f_bestTime f_worstCount f_programBound f_endingCount f_chosen f_time a_kind a_first a_second a_low a_high a_parent a_pathsOf a_lengthOf a_choicesOf a_stack a_worstPath a_sureness a_mostMisses a_mostHits a_leastMisses a_endings a_runsHolding a_rounds a_path a_pathTop a_cache a_runMisses a_runHits a_table a_before a_behind) ∧
    (∀ (h_open h_time h_chosen h_kept h_worst h_best h_worstRuns h_worstChoices h_ends : Int32) (b_todo b_path b_tops b_cache b_missed b_struck b_worstPath b_mostMissed b_mostStruck b_leastMissed b_held : Nat → Int32) (b_contents : Nat → Int64), ∀ post : SY → Prop, post (h_sets, h_places, h_made, h_depth, h_size, h_open, h_time, h_chosen, h_kept, h_worst, h_best, h_worstRuns, h_worstChoices, h_ends, nI bd, 0, nI bd, b_sorts, b_lows, b_highs, b_firsts, b_seconds, b_stack, b_pathsOf, b_lengthOf, b_choicesOf, b_todo, b_cache, b_path, b_tops, b_missed, b_struck, b_worstPath, b_mostMissed, b_mostStruck, b_leastMissed, b_held, b_contents, ag, ph, nd, sm, sv, gr, me, us) → wY_findBound_67 post F2 h_sets h_places h_made h_depth h_size h_open h_time h_chosen h_kept h_worst h_best h_worstRuns h_worstChoices h_ends h_bound h_under h_back b_sorts b_lows b_highs b_firsts b_seconds b_stack b_pathsOf b_lengthOf b_choicesOf b_todo b_cache b_path b_tops b_missed b_struck b_worstPath b_mostMissed b_mostStruck b_leastMissed b_held b_contents b_ages b_phase b_node b_sum b_saved b_greatest b_met b_unsure)
theorem tb_step {g : Nat → Nat → Nat} {root w : Nat} {f_setBits : Int32} {f_placeCount : Int32} {f_made : Int32} {f_height : Int32} {f_pathCount : Int32} {f_greatestLength : Int32} {f_worstTime : Int32} {f_bestTime : Int32} {f_worstCount : Int32} {f_programBound : Int32} {f_endingCount : Int32} {f_chosen : Int32} {f_time : Int32} {a_kind : Nat → Int32} {a_first : Nat → Int32} {a_second : Nat → Int32} {a_low : Nat → Int32} {a_high : Nat → Int32} {a_parent : Nat → Int32} {a_pathsOf : Nat → Int32} {a_lengthOf : Nat → Int32} {a_choicesOf : Nat → Int32} {a_stack : Nat → Int32} {a_worstPath : Nat → Int32} {a_sureness : Nat → Int32} {a_mostMisses : Nat → Int32} {a_mostHits : Nat → Int32} {a_leastMisses : Nat → Int32} {a_endings : Nat → Int64} {a_runsHolding : Nat → Int32} {a_rounds : Nat → Int32} {a_path : Nat → Int32} {a_pathTop : Nat → Int32} {a_cache : Nat → Int32} {a_runMisses : Nat → Int32} {a_runHits : Nat → Int32} {a_table : Nat → Int32} {a_before : Nat → Int32} {a_behind : Nat → Int32} {h_sets : Int32} {h_places : Int32} {h_made : Int32} {h_depth : Int32} {h_size : Int32} {h_bound : Int32} {h_under : Int32} {h_back : Int32} {b_sorts : Nat → Int32} {b_lows : Nat → Int32} {b_highs : Nat → Int32} {b_firsts : Nat → Int32} {b_seconds : Nat → Int32} {b_stack : Nat → Int32} {b_pathsOf : Nat → Int32} {b_lengthOf : Nat → Int32} {b_choicesOf : Nat → Int32} {b_ages : Nat → Int32} {b_phase : Nat → Int32} {b_node : Nat → Int32} {b_sum : Nat → Int32} {b_saved : Nat → Int32} {b_greatest : Nat → Int32} {b_met : Nat → Int32} {b_unsure : Nat → Int32} {at_ at2 un bk : Int32} {st : Nat} {rd tb bf be sn ag nd ph sm sv gr me us : Nat → Int32}
    (hX : ∀ (post : SX → Prop) F, wX_walkTables_36 post (nI root) F at2 (nI (st + 1)) f_setBits f_placeCount f_made f_height f_pathCount f_greatestLength f_worstTime f_bestTime f_worstCount f_programBound f_endingCount f_chosen f_time a_kind a_first a_second a_low a_high a_parent a_pathsOf a_lengthOf a_choicesOf a_stack a_worstPath sn a_mostMisses a_mostHits a_leastMisses a_endings a_runsHolding rd a_path a_pathTop a_cache a_runMisses a_runHits tb bf be → wX_walkTables_36 post (nI root) (F + 1) at_ (nI st) f_setBits f_placeCount f_made f_height f_pathCount f_greatestLength f_worstTime f_bestTime f_worstCount f_programBound f_endingCount f_chosen f_time a_kind a_first a_second a_low a_high a_parent a_pathsOf a_lengthOf a_choicesOf a_stack a_worstPath a_sureness a_mostMisses a_mostHits a_leastMisses a_endings a_runsHolding a_rounds a_path a_pathTop a_cache a_runMisses a_runHits a_table a_before a_behind)
    (hY : ∀ (h_open h_time h_chosen h_kept h_worst h_best h_worstRuns h_worstChoices h_ends : Int32) (b_todo b_path b_tops b_cache b_missed b_struck b_worstPath b_mostMissed b_mostStruck b_leastMissed b_held : Nat → Int32) (b_contents : Nat → Int64), ∀ (post : SY → Prop) F, wY_findBound_67 post F h_sets h_places h_made h_depth h_size h_open h_time h_chosen h_kept h_worst h_best h_worstRuns h_worstChoices h_ends h_bound un bk b_sorts b_lows b_highs b_firsts b_seconds b_stack b_pathsOf b_lengthOf b_choicesOf b_todo b_cache b_path b_tops b_missed b_struck b_worstPath b_mostMissed b_mostStruck b_leastMissed b_held b_contents ag ph nd sm sv gr me us → wY_findBound_67 post (F + 1) h_sets h_places h_made h_depth h_size h_open h_time h_chosen h_kept h_worst h_best h_worstRuns h_worstChoices h_ends h_bound h_under h_back b_sorts b_lows b_highs b_firsts b_seconds b_stack b_pathsOf b_lengthOf b_choicesOf b_todo b_cache b_path b_tops b_missed b_struck b_worstPath b_mostMissed b_mostStruck b_leastMissed b_held b_contents b_ages b_phase b_node b_sum b_saved b_greatest b_met b_unsure)
    (G : tb_G g root w f_setBits f_placeCount f_made f_height f_pathCount f_greatestLength f_worstTime f_bestTime f_worstCount f_programBound f_endingCount f_chosen f_time a_kind a_first a_second a_low a_high a_parent a_pathsOf a_lengthOf a_choicesOf a_stack a_worstPath sn a_mostMisses a_mostHits a_leastMisses a_endings a_runsHolding rd a_path a_pathTop a_cache a_runMisses a_runHits tb bf be h_sets h_places h_made h_depth h_size h_bound un bk b_sorts b_lows b_highs b_firsts b_seconds b_stack b_pathsOf b_lengthOf b_choicesOf ag ph nd sm sv gr me us at2 (st + 1)) : tb_G g root w f_setBits f_placeCount f_made f_height f_pathCount f_greatestLength f_worstTime f_bestTime f_worstCount f_programBound f_endingCount f_chosen f_time a_kind a_first a_second a_low a_high a_parent a_pathsOf a_lengthOf a_choicesOf a_stack a_worstPath a_sureness a_mostMisses a_mostHits a_leastMisses a_endings a_runsHolding a_rounds a_path a_pathTop a_cache a_runMisses a_runHits a_table a_before a_behind h_sets h_places h_made h_depth h_size h_bound h_under h_back b_sorts b_lows b_highs b_firsts b_seconds b_stack b_pathsOf b_lengthOf b_choicesOf b_ages b_phase b_node b_sum b_saved b_greatest b_met b_unsure at_ st := by
  obtain ⟨bd, rd', tb', bf', be', sn', ag', nd', ph', sm', sv', gr', me', us', F1, F2, e1, e2, e3, e4⟩ := G
  exact ⟨bd, rd', tb', bf', be', sn', ag', nd', ph', sm', sv', gr', me', us', F1 + 1, F2 + 1, e1, e2, fun post h => hX post F1 (e3 post h), fun h_open h_time h_chosen h_kept h_worst h_best h_worstRuns h_worstChoices h_ends b_todo b_path b_tops b_cache b_missed b_struck b_worstPath b_mostMissed b_mostStruck b_leastMissed b_held b_contents post h => hY h_open h_time h_chosen h_kept h_worst h_best h_worstRuns h_worstChoices h_ends b_todo b_path b_tops b_cache b_missed b_struck b_worstPath b_mostMissed b_mostStruck b_leastMissed b_held b_contents post F2 (e4 h_open h_time h_chosen h_kept h_worst h_best h_worstRuns h_worstChoices h_ends b_todo b_path b_tops b_cache b_missed b_struck b_worstPath b_mostMissed b_mostStruck b_leastMissed b_held b_contents post h)⟩
end
section
def tb_I (g : Nat → Nat → Nat) (root w N st : Nat) (at_ un bk : Int32) (rd tb bf be sn ag nd ph sm sv gr me us : Nat → Int32) : Prop :=
  ∃ (j n bs mm : Nat), fr_c g root w st rd bf be nd ph sm sv gr j n bs mm ∧ ag_R w tb ag ∧ sr_R g (root + 1) sn me us ∧ st + N ≤ 900000 ∧
   ((at_ = nI n ∧ un = nI (j + 1) ∧ nd j = nI n ∧ ph j = 0 ∧ tb 12 = nI bs ∧ bs ≤ 50 * st ∧ 40 * (g 8 n + mm) ≤ N) ∨
    (at_ = nI n ^^^ (-1) ∧ un = nI j ∧ (∃ k, bk = nI k ∧ tb 12 = nI (bs + k) ∧ bs + k ≤ 50 * st) ∧ 40 * mm + 1 + (root - n) ≤ N))
theorem xb_in {f_setBits : Int32} {f_placeCount : Int32} {f_made : Int32} {f_height : Int32} {f_pathCount : Int32} {f_greatestLength : Int32} {f_worstTime : Int32} {f_bestTime : Int32} {f_worstCount : Int32} {f_programBound : Int32} {f_endingCount : Int32} {f_chosen : Int32} {f_time : Int32} {a_kind : Nat → Int32} {a_first : Nat → Int32} {a_second : Nat → Int32} {a_low : Nat → Int32} {a_high : Nat → Int32} {a_parent : Nat → Int32} {a_pathsOf : Nat → Int32} {a_lengthOf : Nat → Int32} {a_choicesOf : Nat → Int32} {a_stack : Nat → Int32} {a_worstPath : Nat → Int32} {a_sureness : Nat → Int32} {a_mostMisses : Nat → Int32} {a_mostHits : Nat → Int32} {a_leastMisses : Nat → Int32} {a_endings : Nat → Int64} {a_runsHolding : Nat → Int32} {a_rounds : Nat → Int32} {a_path : Nat → Int32} {a_pathTop : Nat → Int32} {a_cache : Nat → Int32} {a_runMisses : Nat → Int32} {a_runHits : Nat → Int32} {a_table : Nat → Int32} {a_before : Nat → Int32} {a_behind : Nat → Int32} {root : Nat} {post : SX → Prop} {F n st : Nat} (hn : n < 18) (hr : root < 18) (hst : st < 1000000) (h : wpX_enterInTables (fun r u => match u with | (f_setBits, f_placeCount, f_made, f_height, f_pathCount, f_greatestLength, f_worstTime, f_bestTime, f_worstCount, f_programBound, f_endingCount, f_chosen, f_time, a_kind, a_first, a_second, a_low, a_high, a_parent, a_pathsOf, a_lengthOf, a_choicesOf, a_stack, a_worstPath, a_sureness, a_mostMisses, a_mostHits, a_leastMisses, a_endings, a_runsHolding, a_rounds, a_path, a_pathTop, a_cache, a_runMisses, a_runHits, a_table, a_before, a_behind) => ∀ x3 : Int32, x3 = nI st + 1 → wX_walkTables_36 post (nI root) F r x3 f_setBits f_placeCount f_made f_height f_pathCount f_greatestLength f_worstTime f_bestTime f_worstCount f_programBound f_endingCount f_chosen f_time a_kind a_first a_second a_low a_high a_parent a_pathsOf a_lengthOf a_choicesOf a_stack a_worstPath a_sureness a_mostMisses a_mostHits a_leastMisses a_endings a_runsHolding a_rounds a_path a_pathTop a_cache a_runMisses a_runHits a_table a_before a_behind) (f_setBits, f_placeCount, f_made, f_height, f_pathCount, f_greatestLength, f_worstTime, f_bestTime, f_worstCount, f_programBound, f_endingCount, f_chosen, f_time, a_kind, a_first, a_second, a_low, a_high, a_parent, a_pathsOf, a_lengthOf, a_choicesOf, a_stack, a_worstPath, a_sureness, a_mostMisses, a_mostHits, a_leastMisses, a_endings, a_runsHolding, a_rounds, a_path, a_pathTop, a_cache, a_runMisses, a_runHits, a_table, a_before, a_behind) (nI n)) : wX_walkTables_36 post (nI root) (F + 1) (nI n) (nI st) f_setBits f_placeCount f_made f_height f_pathCount f_greatestLength f_worstTime f_bestTime f_worstCount f_programBound f_endingCount f_chosen f_time a_kind a_first a_second a_low a_high a_parent a_pathsOf a_lengthOf a_choicesOf a_stack a_worstPath a_sureness a_mostMisses a_mostHits a_leastMisses a_endings a_runsHolding a_rounds a_path a_pathTop a_cache a_runMisses a_runHits a_table a_before a_behind :=
  br_f (cm_ne hn hr) (br_f (nI_ge (b := 1000000) hst (by omega)) (br_f (cm_pos n hn) h))
theorem xb_out {f_setBits : Int32} {f_placeCount : Int32} {f_made : Int32} {f_height : Int32} {f_pathCount : Int32} {f_greatestLength : Int32} {f_worstTime : Int32} {f_bestTime : Int32} {f_worstCount : Int32} {f_programBound : Int32} {f_endingCount : Int32} {f_chosen : Int32} {f_time : Int32} {a_kind : Nat → Int32} {a_first : Nat → Int32} {a_second : Nat → Int32} {a_low : Nat → Int32} {a_high : Nat → Int32} {a_parent : Nat → Int32} {a_pathsOf : Nat → Int32} {a_lengthOf : Nat → Int32} {a_choicesOf : Nat → Int32} {a_stack : Nat → Int32} {a_worstPath : Nat → Int32} {a_sureness : Nat → Int32} {a_mostMisses : Nat → Int32} {a_mostHits : Nat → Int32} {a_leastMisses : Nat → Int32} {a_endings : Nat → Int64} {a_runsHolding : Nat → Int32} {a_rounds : Nat → Int32} {a_path : Nat → Int32} {a_pathTop : Nat → Int32} {a_cache : Nat → Int32} {a_runMisses : Nat → Int32} {a_runHits : Nat → Int32} {a_table : Nat → Int32} {a_before : Nat → Int32} {a_behind : Nat → Int32} {root : Nat} {post : SX → Prop} {F n st : Nat} (hn : n < 18) (hr : root < 18) (hne : n ≠ root) (hst : st < 1000000) (h : wpX_leaveInTables (fun r u => match u with | (f_setBits, f_placeCount, f_made, f_height, f_pathCount, f_greatestLength, f_worstTime, f_bestTime, f_worstCount, f_programBound, f_endingCount, f_chosen, f_time, a_kind, a_first, a_second, a_low, a_high, a_parent, a_pathsOf, a_lengthOf, a_choicesOf, a_stack, a_worstPath, a_sureness, a_mostMisses, a_mostHits, a_leastMisses, a_endings, a_runsHolding, a_rounds, a_path, a_pathTop, a_cache, a_runMisses, a_runHits, a_table, a_before, a_behind) => ∀ x3 : Int32, x3 = nI st + 1 → wX_walkTables_36 post (nI root) F r x3 f_setBits f_placeCount f_made f_height f_pathCount f_greatestLength f_worstTime f_bestTime f_worstCount f_programBound f_endingCount f_chosen f_time a_kind a_first a_second a_low a_high a_parent a_pathsOf a_lengthOf a_choicesOf a_stack a_worstPath a_sureness a_mostMisses a_mostHits a_leastMisses a_endings a_runsHolding a_rounds a_path a_pathTop a_cache a_runMisses a_runHits a_table a_before a_behind) (f_setBits, f_placeCount, f_made, f_height, f_pathCount, f_greatestLength, f_worstTime, f_bestTime, f_worstCount, f_programBound, f_endingCount, f_chosen, f_time, a_kind, a_first, a_second, a_low, a_high, a_parent, a_pathsOf, a_lengthOf, a_choicesOf, a_stack, a_worstPath, a_sureness, a_mostMisses, a_mostHits, a_leastMisses, a_endings, a_runsHolding, a_rounds, a_path, a_pathTop, a_cache, a_runMisses, a_runHits, a_table, a_before, a_behind) (nI n)) : wX_walkTables_36 post (nI root) (F + 1) (nI n ^^^ (-1)) (nI st) f_setBits f_placeCount f_made f_height f_pathCount f_greatestLength f_worstTime f_bestTime f_worstCount f_programBound f_endingCount f_chosen f_time a_kind a_first a_second a_low a_high a_parent a_pathsOf a_lengthOf a_choicesOf a_stack a_worstPath a_sureness a_mostMisses a_mostHits a_leastMisses a_endings a_runsHolding a_rounds a_path a_pathTop a_cache a_runMisses a_runHits a_table a_before a_behind := by
  refine br_f (fun e => hne (cm_eq hn hr e)) (br_f (nI_ge (b := 1000000) hst (by omega)) (br_t (cm_neg n hn) ?_))
  rw [cm_cm n hn]
  exact h
set_option maxHeartbeats 8000000 in
theorem tb_all {g : Nat → Nat → Nat} {root w s : Nat} {f_setBits : Int32} {f_placeCount : Int32} {f_made : Int32} {f_height : Int32} {f_pathCount : Int32} {f_greatestLength : Int32} {f_worstTime : Int32} {f_bestTime : Int32} {f_worstCount : Int32} {f_programBound : Int32} {f_endingCount : Int32} {f_chosen : Int32} {f_time : Int32} {a_kind : Nat → Int32} {a_first : Nat → Int32} {a_second : Nat → Int32} {a_low : Nat → Int32} {a_high : Nat → Int32} {a_parent : Nat → Int32} {a_pathsOf : Nat → Int32} {a_lengthOf : Nat → Int32} {a_choicesOf : Nat → Int32} {a_stack : Nat → Int32} {a_worstPath : Nat → Int32} {a_mostMisses : Nat → Int32} {a_mostHits : Nat → Int32} {a_leastMisses : Nat → Int32} {a_endings : Nat → Int64} {a_runsHolding : Nat → Int32} {a_path : Nat → Int32} {a_pathTop : Nat → Int32} {a_cache : Nat → Int32} {a_runMisses : Nat → Int32} {a_runHits : Nat → Int32} {h_sets : Int32} {h_places : Int32} {h_made : Int32} {h_depth : Int32} {h_size : Int32} {h_bound : Int32} {b_sorts : Nat → Int32} {b_lows : Nat → Int32} {b_highs : Nat → Int32} {b_firsts : Nat → Int32} {b_seconds : Nat → Int32} {b_stack : Nat → Int32} {b_pathsOf : Nat → Int32} {b_lengthOf : Nat → Int32} {b_choicesOf : Nat → Int32}
    (T : pg_t g (root + 1)) (hr : root < 18) (hw0 : 0 < w) (hw : w ≤ 4) (hs0 : 0 < s) (hs : s ≤ 4) (hb : ∀ x y, x < 12 → y < 12 → ((nI x &&& f_setBits) = (nI y &&& f_setBits) ↔ x % s = y % s))
    (hpc : f_placeCount = nI w) (hsets : h_sets = nI s) (hpl : h_places = nI w)
    (XT : ∀ n, n ≤ root → xt_n g a_kind a_first a_second a_low a_high a_parent n) (YT : ∀ n, n ≤ root → yt_n g 0 b_sorts b_lows b_highs b_firsts b_seconds n) :
    ∀ (N st : Nat) (at_ h_under h_back : Int32) (a_rounds a_table a_before a_behind a_sureness b_ages b_node b_phase b_sum b_saved b_greatest b_met b_unsure : Nat → Int32),
      tb_I g root w N st at_ h_under h_back a_rounds a_table a_before a_behind a_sureness b_ages b_node b_phase b_sum b_saved b_greatest b_met b_unsure →
      tb_G g root w f_setBits f_placeCount f_made f_height f_pathCount f_greatestLength f_worstTime f_bestTime f_worstCount f_programBound f_endingCount f_chosen f_time a_kind a_first a_second a_low a_high a_parent a_pathsOf a_lengthOf a_choicesOf a_stack a_worstPath a_sureness a_mostMisses a_mostHits a_leastMisses a_endings a_runsHolding a_rounds a_path a_pathTop a_cache a_runMisses a_runHits a_table a_before a_behind h_sets h_places h_made h_depth h_size h_bound h_under h_back b_sorts b_lows b_highs b_firsts b_seconds b_stack b_pathsOf b_lengthOf b_choicesOf b_ages b_phase b_node b_sum b_saved b_greatest b_met b_unsure at_ st := by
  intro N
  induction N with
  | zero =>
    intro st at_ h_under h_back a_rounds a_table a_before a_behind a_sureness b_ages b_node b_phase b_sum b_saved b_greatest b_met b_unsure H
    exfalso
    obtain ⟨j, n, bs, mm, C, A, S, hst, ⟨-, -, -, -, -, -, h⟩ | ⟨-, -, -, h⟩⟩ := H
    · have := pg_M1 (T n (by have := fr_le C; omega))
      omega
    · omega
  | succ N ih =>
    intro st at_ h_under h_back a_rounds a_table a_before a_behind a_sureness b_ages b_node b_phase b_sum b_saved b_greatest b_met b_unsure H
    obtain ⟨j, n, bs, mm, C, A, S, hst, P⟩ := H
    have hnj := fr_le C
    have hn : n < 18 := by omega
    have hnr : n ≤ root := by omega
    have hj20 : j < 20 := by omega
    have hj21 : j + 1 < 20 := by omega
    rcases P with ⟨e1, e2, e3, e4, e5, e6, hN⟩ | ⟨e1, e2, ⟨bk, e3, e4, e5⟩, hN⟩
    · subst e1 e2
      have Pg := T n (by omega)
      obtain ⟨x1, x2, x3, x4, x5, x6⟩ := XT n hnr
      obtain ⟨y1, y2, y3, y4, y5⟩ := YT n hnr
      rw [Nat.zero_add] at y1 y2 y3 y4 y5
      have hk : b_sorts n = 0 ∨ b_sorts n = 1 ∨ b_sorts n = 2 ∨ b_sorts n = 3 ∨ b_sorts n = 4 := by
        rw [y1]
        have : ∀ k, k ≤ 4 → nI k = 0 ∨ nI k = 1 ∨ nI k = 2 ∨ nI k = 3 ∨ nI k = 4 := by decide
        exact this _ (pg_kd Pg)
      obtain ⟨-, -, k | k | k | k | k⟩ := Pg
      · obtain ⟨k0, k1, -, -, -, -, -, -, km⟩ := k
        rw [k0] at x1 y1
        have yl := y2 (by omega)
        obtain ⟨am, a, ha, hag⟩ := A (g 1 n) k1
        have hagx : a_table (g 1 n) = nI a := by rw [am]; exact hag
        have okA : ∀ v : Int32, ag_R w (upd (ac_a s (g 1 n) a_table) 12 v) (ac_a s (g 1 n) b_ages) := by
          intro v m hm
          rw [us_n (by omega)]
          exact ⟨ac_eq k1 (fun l hl => (A l hl).1) m hm, ac_ok hw k1 (fun l hl => (A l hl).2) m hm⟩
        by_cases z : a < w
        · refine tb_step (at2 := nI n ^^^ (-1)) (rd := a_rounds) (tb := upd (ac_a s (g 1 n) a_table) 12 (nI (bs + 1))) (bf := a_before) (be := a_behind) (sn := if a_sureness n = 2 then upd a_sureness n 1 else a_sureness) (un := nI j) (bk := nI 1) (ag := ac_a s (g 1 n) b_ages) (nd := b_node) (ph := b_phase) (sm := b_sum) (sv := b_saved) (gr := b_greatest) (me := upd b_met n 1) (us := b_unsure) (fun post F h => xb_in hn hr (by omega) ?_) (fun h_open h_time h_chosen h_kept h_worst h_best h_worstRuns h_worstChoices h_ends b_todo b_path b_tops b_cache b_missed b_struck b_worstPath b_mostMissed b_mostStruck b_leastMissed b_held b_contents post F h => yf_go (h_under := 0) hn hj20 e3 (fun _ => ?_) (fun y => absurd y (by rw [y1]; decide)) (fun y => absurd y (by rw [y1]; decide)) (fun y => absurd y (by rw [y1]; decide)) (fun y => absurd y (by rw [y1]; decide)) hk) (ih _ _ _ _ _ _ _ _ _ _ _ _ _ _ _ _ _ ⟨j, n, bs, mm, fr_upd (by omega) C (fun _ _ => rfl) (fun _ _ => ⟨rfl, rfl⟩) (fun _ _ => ⟨rfl, rfl, rfl⟩) (fun _ _ => ⟨rfl, rfl⟩), okA _, sr_hit S (by omega) hn k0, by omega, Or.inr ⟨rfl, rfl, ⟨1, rfl, us_s, by omega⟩, by omega⟩⟩)
          · refine xv_acc (s := s) hn x1 k1 hb x2 (fun _ => nm_r (nI_1 st) ?_) (fun y => absurd y (by rw [hpc, hagx]; exact nI_ge z (by omega)))
            rw [e5, nI_1]
            exact h
          · rw [yl]
            refine yj_acc k1 hn hs0 hs hw hsets hpl hag ha (fun _ => ?_) (fun y => absurd z y)
            rw [nI_pred]
            exact h
        · have e10 : nI bs + 10 = nI (bs + 10) := nI_add bs 10
          refine tb_step (at2 := nI n ^^^ (-1)) (rd := a_rounds) (tb := upd (ac_a s (g 1 n) a_table) 12 (nI (bs + 10))) (bf := a_before) (be := a_behind) (sn := upd a_sureness n 0) (un := nI j) (bk := nI 10) (ag := ac_a s (g 1 n) b_ages) (nd := b_node) (ph := b_phase) (sm := b_sum) (sv := b_saved) (gr := b_greatest) (me := upd b_met n 1) (us := upd b_unsure n 1) (fun post F h => xb_in hn hr (by omega) ?_) (fun h_open h_time h_chosen h_kept h_worst h_best h_worstRuns h_worstChoices h_ends b_todo b_path b_tops b_cache b_missed b_struck b_worstPath b_mostMissed b_mostStruck b_leastMissed b_held b_contents post F h => yf_go (h_under := 0) hn hj20 e3 (fun _ => ?_) (fun y => absurd y (by rw [y1]; decide)) (fun y => absurd y (by rw [y1]; decide)) (fun y => absurd y (by rw [y1]; decide)) (fun y => absurd y (by rw [y1]; decide)) hk) (ih _ _ _ _ _ _ _ _ _ _ _ _ _ _ _ _ _ ⟨j, n, bs, mm, fr_upd (by omega) C (fun _ _ => rfl) (fun _ _ => ⟨rfl, rfl⟩) (fun _ _ => ⟨rfl, rfl, rfl⟩) (fun _ _ => ⟨rfl, rfl⟩), okA _, sr_miss S (by omega) hn k0, by omega, Or.inr ⟨rfl, rfl, ⟨10, rfl, us_s, by omega⟩, by omega⟩⟩)
          · refine xv_acc (s := s) hn x1 k1 hb x2 (fun y => absurd (by rw [hpc, hagx]; exact nI_le (by omega) (by omega)) y) (fun _ => nm_r (nI_1 st) ?_)
            rw [e5, e10]
            exact h
          · rw [yl]
            refine yj_acc k1 hn hs0 hs hw hsets hpl hag ha (fun y => absurd y z) (fun _ => ?_)
            rw [nI_pred]
            exact h
      · obtain ⟨k0, k1, -, -, -, -, -, -, km⟩ := k
        rw [k0] at x1 y1
        have yl := y2 (by omega)
        refine tb_step (at2 := nI n ^^^ (-1)) (rd := a_rounds) (tb := upd a_table 12 (nI (bs + g 1 n))) (bf := a_before) (be := a_behind) (sn := a_sureness) (un := nI j) (bk := nI (g 1 n)) (ag := b_ages) (nd := b_node) (ph := b_phase) (sm := b_sum) (sv := b_saved) (gr := b_greatest) (me := b_met) (us := b_unsure) (fun post F h => xb_in hn hr (by omega) ?_) (fun h_open h_time h_chosen h_kept h_worst h_best h_worstRuns h_worstChoices h_ends b_todo b_path b_tops b_cache b_missed b_struck b_worstPath b_mostMissed b_mostStruck b_leastMissed b_held b_contents post F h => yf_go (h_under := 0) hn hj20 e3 (fun y => absurd y (by rw [y1]; decide)) (fun _ => ?_) (fun y => absurd y (by rw [y1]; decide)) (fun y => absurd y (by rw [y1]; decide)) (fun y => absurd y (by rw [y1]; decide)) hk) (ih _ _ _ _ _ _ _ _ _ _ _ _ _ _ _ _ _ ⟨j, n, bs, mm, fr_upd (by omega) C (fun _ _ => rfl) (fun _ _ => ⟨rfl, rfl⟩) (fun _ _ => ⟨rfl, rfl, rfl⟩) (fun _ _ => ⟨rfl, rfl⟩), fun m hm => by rw [us_n (by omega)]; exact A m hm, S, by omega, Or.inr ⟨rfl, rfl, ⟨g 1 n, rfl, us_s, by omega⟩, by omega⟩⟩)
        · refine xv_work hn x1 (nm_r (nI_1 st) ?_)
          rw [e5, x2, nI_add]
          exact h
        · rw [yl]
          exact h
      · obtain ⟨k0, k1, k2, -, -, -, -, -, -, -, km⟩ := k
        rw [k0] at x1 y1
        have yf := y3 (by omega)
        refine tb_step (at2 := nI (g 1 n)) (rd := a_rounds) (tb := a_table) (bf := a_before) (be := a_behind) (sn := a_sureness) (un := nI (j + 1 + 1)) (bk := h_back) (ag := b_ages) (nd := upd b_node (j + 1) (b_firsts n)) (ph := upd (upd b_phase j (b_phase j + 1)) (j + 1) 0) (sm := b_sum) (sv := b_saved) (gr := b_greatest) (me := b_met) (us := b_unsure) (fun post F h => xb_in hn hr (by omega) ?_) (fun h_open h_time h_chosen h_kept h_worst h_best h_worstRuns h_worstChoices h_ends b_todo b_path b_tops b_cache b_missed b_struck b_worstPath b_mostMissed b_mostStruck b_leastMissed b_held b_contents post F h => yf_go (h_under := 0) hn hj20 e3 (fun y => absurd y (by rw [y1]; decide)) (fun y => absurd y (by rw [y1]; decide)) (fun _ => ?_) (fun y => absurd y (by rw [y1]; decide)) (fun y => absurd y (by rw [y1]; decide)) hk) (ih _ _ _ _ _ _ _ _ _ _ _ _ _ _ _ _ _ ⟨j + 1, g 1 n, bs, g 8 (g 2 n) + mm, ⟨n, bs, mm, by omega, hnr, fr_upd (by omega) C (fun _ _ => rfl) (fun _ _ => ⟨rfl, rfl⟩) (fun i hi => ⟨us_n (by omega), by rw [us_n (by omega), us_n (by omega)], rfl⟩) (fun _ _ => ⟨rfl, rfl⟩), by rw [us_n (by omega)]; exact e3, Nat.le_refl _, Or.inl ⟨k0, rfl, by rw [us_n (by omega), us_s, e4]; rfl, rfl, rfl⟩⟩, A, S, by omega, Or.inl ⟨rfl, rfl, by rw [us_s, yf], us_s, e5, by omega, by omega⟩⟩)
        · refine xv_seq hn x1 (nm_r (nI_1 st) ?_)
          rw [x2]
          exact h
        · exact yg_seq (h_under := 0) hn hj21 (fun _ => h) (fun y => absurd y (by rw [e4]; decide)) (fun y => absurd e4 y)
      · obtain ⟨k0, k1, k2, -, -, -, -, -, -, -, km⟩ := k
        rw [k0] at x1 y1
        have yf := y3 (by omega)
        refine tb_step (at2 := nI (g 1 n)) (rd := a_rounds) (tb := a_table) (bf := sr_f (n * 13) a_table a_before 13) (be := sr_f (n * 13) (fun _ => 0) a_behind 13) (sn := a_sureness) (un := nI (j + 1 + 1)) (bk := h_back) (ag := b_ages) (nd := upd b_node (j + 1) (b_firsts n)) (ph := upd (upd b_phase j (b_phase j + 1)) (j + 1) 0) (sm := b_sum) (sv := sr_f (12 * j) b_ages b_saved 12) (gr := b_greatest) (me := b_met) (us := b_unsure) (fun post F h => xb_in hn hr (by omega) ?_) (fun h_open h_time h_chosen h_kept h_worst h_best h_worstRuns h_worstChoices h_ends b_todo b_path b_tops b_cache b_missed b_struck b_worstPath b_mostMissed b_mostStruck b_leastMissed b_held b_contents post F h => yf_go (h_under := 0) hn hj20 e3 (fun y => absurd y (by rw [y1]; decide)) (fun y => absurd y (by rw [y1]; decide)) (fun y => absurd y (by rw [y1]; decide)) (fun _ => ?_) (fun y => absurd y (by rw [y1]; decide)) hk) (ih _ _ _ _ _ _ _ _ _ _ _ _ _ _ _ _ _ ⟨j + 1, g 1 n, bs, g 8 (g 2 n) + mm, ⟨n, bs, mm, by omega, hnr, fr_upd (by omega) C (fun _ _ => rfl) (fun x hx => ⟨sr_out (by omega), sr_out (by omega)⟩) (fun i hi => ⟨us_n (by omega), by rw [us_n (by omega), us_n (by omega)], rfl⟩) (fun x hx => ⟨sr_out (by omega), rfl⟩), by rw [us_n (by omega)]; exact e3, Nat.le_refl _, Or.inr (Or.inr (Or.inl ⟨k0, rfl, by rw [us_n (by omega), us_s, e4]; rfl, rfl, rfl, fun m hm => by rw [sr_in (by omega), sr_in hm]; exact A m hm, by rw [sr_in (by omega)]; exact e5, fun x hx => sr_in hx⟩))⟩, A, S, by omega, Or.inl ⟨rfl, rfl, by rw [us_s, yf], us_s, e5, by omega, by omega⟩⟩)
        · refine xv_if hn x1 (nm_r (nI_1 st) ?_)
          rw [x2]
          exact h
        · exact yg_if (h_under := 0) hn hj21 (fun _ => h) (fun y => absurd y (by rw [e4]; decide)) (fun y => absurd e4 y)
      · obtain ⟨k0, k1, -, kl, kh, -, -, -, km⟩ := k
        rw [k0] at x1 y1
        have yf := y3 (by omega)
        obtain ⟨yl, yh⟩ := y5 k0
        have hz : fr_z (sr_f (n * 13) (fun _ => 0) a_behind 13) n := fun x hx => sr_in hx
        have ex : ∃ be' gr' : Nat → Int32, ((g 3 n ≤ 0 ∧ be' = sr_f (n * 13) (fun x => ix_x (a_table x) (sr_f (n * 13) (fun _ => 0) a_behind 13 (n * 13 + x))) (sr_f (n * 13) (fun _ => 0) a_behind 13) 13) ∨ (0 < g 3 n ∧ be' = sr_f (n * 13) (fun _ => 0) a_behind 13)) ∧ ((0 < g 3 n ∧ gr' = b_greatest) ∨ (0 = g 3 n ∧ gr' = sr_f (12 * j) b_ages b_greatest 12) ∨ (g 3 n < 0 ∧ gr' = sr_f (12 * j) (fun x => ix_x (b_greatest (12 * j + x)) (b_ages x)) b_greatest 12)) ∧
            ((g 3 n < 1 ∧ fr_r w be' gr' n j ∧ be' (n * 13 + 12) = nI bs) ∨ (1 ≤ g 3 n ∧ fr_z be' n)) ∧ (∀ x, (n + 1) * 13 ≤ x → be' x = a_behind x) ∧ (∀ x, x < 12 * j → gr' x = b_greatest x) := by
          by_cases z : g 3 n = 0
          · refine ⟨sr_f (n * 13) (fun x => ix_x (a_table x) (sr_f (n * 13) (fun _ => 0) a_behind 13 (n * 13 + x))) (sr_f (n * 13) (fun _ => 0) a_behind 13) 13, sr_f (12 * j) b_ages b_greatest 12, Or.inl ⟨by omega, rfl⟩, Or.inr (Or.inl ⟨by omega, rfl⟩), Or.inl ⟨by omega, rr_rz hw A hz, rr_z hz (by omega) (by omega) e5⟩, fun x hx => by rw [sr_out (by omega), sr_out (by omega)], fun x hx => sr_out (by omega)⟩
          · exact ⟨sr_f (n * 13) (fun _ => 0) a_behind 13, b_greatest, Or.inr ⟨by omega, rfl⟩, Or.inl ⟨by omega, rfl⟩, Or.inr ⟨by omega, hz⟩, fun x hx => sr_out (by omega), fun x hx => rfl⟩
        obtain ⟨be', gr', b1, b2, b3, b4, b5⟩ := ex
        by_cases z : 0 < g 4 n
        · have me : g 8 (g 1 n) + (g 4 n - 1) * g 8 (g 1 n) = g 4 n * g 8 (g 1 n) := by
            obtain ⟨q, hq⟩ : ∃ q, g 4 n = q + 1 := ⟨g 4 n - 1, by omega⟩
            rw [hq, Nat.add_sub_cancel, Nat.succ_mul, Nat.add_comm]
          refine tb_step (at2 := nI (g 1 n)) (rd := upd (upd a_rounds n 0) n (nI (0 + 1))) (tb := a_table) (bf := a_before) (be := be') (sn := a_sureness) (un := nI (j + 1 + 1)) (bk := h_back) (ag := b_ages) (nd := upd b_node (j + 1) (b_firsts n)) (ph := upd (upd b_phase j (nI (0 + 1))) (j + 1) 0) (sm := upd b_sum j 0) (sv := b_saved) (gr := gr') (me := b_met) (us := b_unsure) (fun post F h => xb_in hn hr (by omega) ?_) (fun h_open h_time h_chosen h_kept h_worst h_best h_worstRuns h_worstChoices h_ends b_todo b_path b_tops b_cache b_missed b_struck b_worstPath b_mostMissed b_mostStruck b_leastMissed b_held b_contents post F h => yf_go (h_under := 0) hn hj20 e3 (fun y => absurd y (by rw [y1]; decide)) (fun y => absurd y (by rw [y1]; decide)) (fun y => absurd y (by rw [y1]; decide)) (fun y => absurd y (by rw [y1]; decide)) (fun _ => ?_) hk) (ih _ _ _ _ _ _ _ _ _ _ _ _ _ _ _ _ _ ⟨j + 1, g 1 n, bs, (g 4 n - 1) * g 8 (g 1 n) + mm, ⟨n, bs, mm, by omega, hnr, fr_upd (by omega) C (fun p hp => by rw [us_n (by omega), us_n (by omega)]) (fun x hx => ⟨rfl, b4 x hx⟩) (fun i hi => ⟨us_n (by omega), by rw [us_n (by omega), us_n (by omega)], us_n (by omega)⟩) (fun x hx => ⟨rfl, b5 x hx⟩), by rw [us_n (by omega)]; exact e3, Nat.le_refl _, Or.inr (Or.inr (Or.inr (Or.inr ⟨k0, rfl, 1, 0, by omega, by omega, us_s, by rw [us_n (by omega), us_s], us_s, rfl, rfl, ?_⟩)))⟩, A, S, by omega, Or.inl ⟨rfl, rfl, by rw [us_s, yf], us_s, e5, by omega, by omega⟩⟩)
          · refine xv_loop hn x1 (by omega) kh x3 x4 b1 (fun _ => nm_r (nI_1 st) ?_) (fun y => absurd z y)
            rw [x2]
            exact h
          · exact yg_loop (h_under := 0) (i := 0) hn hj21 (by omega) kh (by omega) yl yh e4 (Or.inl ⟨rfl, rfl⟩) b2 (fun _ => h) (fun y => absurd z y)
          · rcases b3 with ⟨c1, c2, c3⟩ | ⟨c1, c2⟩
            · exact Or.inl ⟨c1, c2, bs, Nat.le_refl _, c3⟩
            · exact Or.inr ⟨c1, c2⟩
        · have b3' : fr_r w be' gr' n j ∧ be' (n * 13 + 12) = nI bs := by
            rcases b3 with ⟨c1, c2, c3⟩ | ⟨c1, c2⟩
            · exact ⟨c2, c3⟩
            · omega
          refine tb_step (at2 := nI n ^^^ (-1)) (rd := upd a_rounds n 0) (tb := sw_f (fun x => be' (n * 13 + x)) a_table 13) (bf := a_before) (be := be') (sn := a_sureness) (un := nI j) (bk := 0) (ag := sw_f (fun x => gr' (12 * j + x)) b_ages 12) (nd := b_node) (ph := upd b_phase j (nI (0 + 1))) (sm := upd b_sum j 0) (sv := b_saved) (gr := gr') (me := b_met) (us := b_unsure) (fun post F h => xb_in hn hr (by omega) ?_) (fun h_open h_time h_chosen h_kept h_worst h_best h_worstRuns h_worstChoices h_ends b_todo b_path b_tops b_cache b_missed b_struck b_worstPath b_mostMissed b_mostStruck b_leastMissed b_held b_contents post F h => yf_go (h_under := 0) hn hj20 e3 (fun y => absurd y (by rw [y1]; decide)) (fun y => absurd y (by rw [y1]; decide)) (fun y => absurd y (by rw [y1]; decide)) (fun y => absurd y (by rw [y1]; decide)) (fun _ => ?_) hk) (ih _ _ _ _ _ _ _ _ _ _ _ _ _ _ _ _ _ ⟨j, n, bs, mm, fr_upd (by omega) C (fun p hp => us_n (by omega)) (fun x hx => ⟨rfl, b4 x hx⟩) (fun i hi => ⟨rfl, us_n (by omega), us_n (by omega)⟩) (fun x hx => ⟨rfl, b5 x hx⟩), ag_row b3'.1, S, by omega, Or.inr ⟨rfl, rfl, ⟨0, rfl, by rw [sw_lt (by omega)]; exact b3'.2, by omega⟩, by omega⟩⟩)
          · exact xv_loop hn x1 (by omega) kh x3 x4 b1 (fun y => absurd y z) (fun _ => nm_r (nI_1 st) h)
          · exact yg_loop (h_under := 0) (i := 0) hn hj21 (by omega) kh (by omega) yl yh e4 (Or.inl ⟨rfl, rfl⟩) b2 (fun y => absurd y z) (fun _ => h)
    · subst e1 e2 e3
      by_cases hroot : n = root
      · have hj0 : j = 0 ∧ bs = 0 := by
          cases j with
          | zero => exact ⟨rfl, C.2.1⟩
          | succ j => obtain ⟨p, -, -, h1, h2, -⟩ := C; omega
        obtain ⟨hj0, hbs⟩ := hj0
        subst hj0 hbs hroot
        rw [Nat.zero_add] at e4
        exact ⟨bk, a_rounds, a_table, a_before, a_behind, a_sureness, b_ages, b_node, b_phase, b_sum, b_saved, b_greatest, b_met, b_unsure, 1, 1, e4, S, fun post h => br_t rfl h, fun h_open h_time h_chosen h_kept h_worst h_best h_worstRuns h_worstChoices h_ends b_todo b_path b_tops b_cache b_missed b_struck b_worstPath b_mostMissed b_mostStruck b_leastMissed b_held b_contents post h => br_t (by decide) h⟩
      · cases j with
        | zero => exact absurd C.1 hroot
        | succ j =>
          obtain ⟨p, bs', mm', hnp, hpr, C', hnd, hbs, hc⟩ := C
          have hp : p < 18 := by omega
          have hj20 : j < 20 := by omega
          have hj21 : j + 1 < 20 := by omega
          obtain ⟨x1, x2, x3, x4, x5, x6⟩ := XT p hpr
          obtain ⟨y1, y2, y3, y4, y5⟩ := YT p hpr
          rw [Nat.zero_add] at y1 y2 y3 y4 y5
          have Pg := T p (by omega)
          have hk : b_sorts p = 0 ∨ b_sorts p = 1 ∨ b_sorts p = 2 ∨ b_sorts p = 3 ∨ b_sorts p = 4 := by
            rw [y1]
            have : ∀ k, k ≤ 4 → nI k = 0 ∨ nI k = 1 ∨ nI k = 2 ∨ nI k = 3 ∨ nI k = 4 := by decide
            exact this _ (pg_kd Pg)
          rcases hc with ⟨k0, kn, kp, kb, kmm⟩ | ⟨k0, kn, kp, ⟨q, kq, kb⟩, kmm⟩ | ⟨k0, kn, kp, kb, kmm, kr, kb12, kz⟩ | ⟨k0, kn, kp, kb, kmm, ⟨q, kq, kb12, kq50⟩, kr⟩ | ⟨k0, kn, i, q, ki1, kih, krd, kp, kq, kb, kmm, kc⟩
          · have hfs : g 1 p < g 2 p ∧ g 2 p < p := by obtain ⟨-, -, N | N | N | N | N⟩ := Pg <;> omega
            rw [k0] at x1 y1
            have ys := y4 (Or.inl k0)
            have xs := (x6 (Or.inl k0)).1
            have hpar := x5 (by omega)
            rw [← kn] at hpar x2
            subst kb kmm
            refine tb_step (at2 := nI (g 2 p)) (rd := a_rounds) (tb := a_table) (bf := a_before) (be := a_behind) (sn := a_sureness) (un := nI (j + 1 + 1)) (bk := nI bk) (ag := b_ages) (nd := upd b_node (j + 1) (b_seconds p)) (ph := upd (upd b_phase j (b_phase j + 1)) (j + 1) 0) (sm := upd b_sum j (nI bk)) (sv := b_saved) (gr := b_greatest) (me := b_met) (us := b_unsure) (fun post F h => xb_out hn hr hroot (by omega) ?_) (fun h_open h_time h_chosen h_kept h_worst h_best h_worstRuns h_worstChoices h_ends b_todo b_path b_tops b_cache b_missed b_struck b_worstPath b_mostMissed b_mostStruck b_leastMissed b_held b_contents post F h => yf_go (h_under := 0) hp hj20 hnd (fun y => absurd y (by rw [y1]; decide)) (fun y => absurd y (by rw [y1]; decide)) (fun _ => ?_) (fun y => absurd y (by rw [y1]; decide)) (fun y => absurd y (by rw [y1]; decide)) hk) (ih _ _ _ _ _ _ _ _ _ _ _ _ _ _ _ _ _ ⟨j + 1, g 2 p, bs + bk, mm', ⟨p, bs, mm', hfs.2, hpr, fr_upd (by omega) C' (fun _ _ => rfl) (fun _ _ => ⟨rfl, rfl⟩) (fun i hi => ⟨us_n (by omega), by rw [us_n (by omega), us_n (by omega)], us_n (by omega)⟩) (fun _ _ => ⟨rfl, rfl⟩), by rw [us_n (by omega)]; exact hnd, by omega, Or.inr (Or.inl ⟨k0, rfl, by rw [us_n (by omega), us_s, kp]; rfl, ⟨bk, us_s, rfl⟩, rfl⟩)⟩, A, S, by omega, Or.inl ⟨rfl, rfl, by rw [us_s, ys], us_s, e4, by omega, by omega⟩⟩)
            · refine xw_leave hn hp hpar (fun _ => ?_) (fun y => absurd x2.symm y)
              refine xw_22 hp (fun _ y => absurd y (by decide)) (fun _ _ => nm_r (nI_1 st) ?_) (fun y => absurd y (by rw [x1]; decide)) (fun y => absurd y (by rw [x1]; decide)) (fun y => absurd x1 y)
              rw [xs]
              exact h
            · exact yg_seq (h_under := 0) hp hj21 (fun y => absurd y (by rw [kp]; decide)) (fun _ => h) (fun _ y => absurd kp y)
          · have hfs : g 1 p < g 2 p ∧ g 2 p < p := by obtain ⟨-, -, N | N | N | N | N⟩ := Pg <;> omega
            rw [k0] at x1 y1
            have hpar := (x6 (Or.inl k0)).2
            rw [← kn] at hpar
            have hnf : ¬ nI n = a_first p := by rw [x2, nI_eq (by omega) (by omega)]; omega
            subst kb kmm
            have eb : b_sum j + nI bk = nI (q + bk) := by rw [kq, nI_add]
            refine tb_step (at2 := nI p ^^^ (-1)) (rd := a_rounds) (tb := a_table) (bf := a_before) (be := a_behind) (sn := a_sureness) (un := nI j) (bk := nI (q + bk)) (ag := b_ages) (nd := b_node) (ph := upd b_phase j (b_phase j + 1)) (sm := b_sum) (sv := b_saved) (gr := b_greatest) (me := b_met) (us := b_unsure) (fun post F h => xb_out hn hr hroot (by omega) ?_) (fun h_open h_time h_chosen h_kept h_worst h_best h_worstRuns h_worstChoices h_ends b_todo b_path b_tops b_cache b_missed b_struck b_worstPath b_mostMissed b_mostStruck b_leastMissed b_held b_contents post F h => yf_go (h_under := 0) hp hj20 hnd (fun y => absurd y (by rw [y1]; decide)) (fun y => absurd y (by rw [y1]; decide)) (fun _ => ?_) (fun y => absurd y (by rw [y1]; decide)) (fun y => absurd y (by rw [y1]; decide)) hk) (ih _ _ _ _ _ _ _ _ _ _ _ _ _ _ _ _ _ ⟨j, p, bs', mm, fr_upd (by omega) C' (fun _ _ => rfl) (fun _ _ => ⟨rfl, rfl⟩) (fun i hi => ⟨rfl, us_n (by omega), rfl⟩) (fun _ _ => ⟨rfl, rfl⟩), A, S, by omega, Or.inr ⟨rfl, rfl, ⟨q + bk, rfl, by rw [e4, Nat.add_assoc], by omega⟩, by omega⟩⟩)
            · refine xw_leave hn hp hpar (fun y => absurd y hnf) (fun _ => ?_)
              exact xw_22 hp (fun _ _ => nm_r (nI_1 st) h) (fun _ y => absurd rfl y) (fun y => absurd y (by rw [x1]; decide)) (fun y => absurd y (by rw [x1]; decide)) (fun y => absurd x1 y)
            · refine yg_seq (h_under := 0) hp hj21 (fun y => absurd y (by rw [kp]; decide)) (fun y => absurd y (by rw [kp]; decide)) (fun _ _ => ?_)
              rw [eb]
              exact h
          · have hfs : g 1 p < g 2 p ∧ g 2 p < p := by obtain ⟨-, -, N | N | N | N | N⟩ := Pg <;> omega
            rw [k0] at x1 y1
            have ys := y4 (Or.inr k0)
            have xs := (x6 (Or.inr k0)).1
            have hpar := x5 (by omega)
            rw [← kn] at hpar x2
            subst kb kmm
            refine tb_step (at2 := nI (g 2 p)) (rd := a_rounds) (tb := sw_f (fun x => a_before (p * 13 + x)) a_table 13) (bf := a_before) (be := sr_f (p * 13) (fun x => ix_x (a_table x) (a_behind (p * 13 + x))) a_behind 13) (sn := a_sureness) (un := nI (j + 1 + 1)) (bk := nI bk) (ag := sw_f (fun x => b_saved (12 * j + x)) b_ages 12) (nd := upd b_node (j + 1) (b_seconds p)) (ph := upd (upd b_phase j (b_phase j + 1)) (j + 1) 0) (sm := upd b_sum j (nI bk)) (sv := b_saved) (gr := sr_f (12 * j) b_ages b_greatest 12) (me := b_met) (us := b_unsure) (fun post F h => xb_out hn hr hroot (by omega) ?_) (fun h_open h_time h_chosen h_kept h_worst h_best h_worstRuns h_worstChoices h_ends b_todo b_path b_tops b_cache b_missed b_struck b_worstPath b_mostMissed b_mostStruck b_leastMissed b_held b_contents post F h => yf_go (h_under := 0) hp hj20 hnd (fun y => absurd y (by rw [y1]; decide)) (fun y => absurd y (by rw [y1]; decide)) (fun y => absurd y (by rw [y1]; decide)) (fun _ => ?_) (fun y => absurd y (by rw [y1]; decide)) hk) (ih _ _ _ _ _ _ _ _ _ _ _ _ _ _ _ _ _ ⟨j + 1, g 2 p, bs, mm', ⟨p, bs, mm', hfs.2, hpr, fr_upd (by omega) C' (fun _ _ => rfl) (fun x hx => ⟨rfl, sr_out (by omega)⟩) (fun i hi => ⟨us_n (by omega), by rw [us_n (by omega), us_n (by omega)], us_n (by omega)⟩) (fun x hx => ⟨rfl, sr_out (by omega)⟩), by rw [us_n (by omega)]; exact hnd, by omega, Or.inr (Or.inr (Or.inr (Or.inl ⟨k0, rfl, by rw [us_n (by omega), us_s, kp]; rfl, rfl, rfl, ⟨bk, us_s, rr_z kz (by omega) (by omega) e4, by omega⟩, rr_rz hw A kz⟩)))⟩, ag_row kr, S, by omega, Or.inl ⟨rfl, rfl, by rw [us_s, ys], us_s, by rw [sw_lt (by omega)]; exact kb12, by omega, by omega⟩⟩)
            · refine xw_leave hn hp hpar (fun _ => ?_) (fun y => absurd x2.symm y)
              refine xw_22 hp (fun y => absurd y (by rw [x1]; decide)) (fun y => absurd y (by rw [x1]; decide)) (fun _ y => absurd y (by decide)) (fun _ _ => nm_r (nI_1 st) ?_) (fun _ y => absurd x1 y)
              rw [xs]
              exact h
            · exact yg_if (h_under := 0) hp hj21 (fun y => absurd y (by rw [kp]; decide)) (fun _ => h) (fun _ y => absurd kp y)
          · have hfs : g 1 p < g 2 p ∧ g 2 p < p := by obtain ⟨-, -, N | N | N | N | N⟩ := Pg <;> omega
            rw [k0] at x1 y1
            have hpar := (x6 (Or.inr k0)).2
            rw [← kn] at hpar
            have hnf : ¬ nI n = a_first p := by rw [x2, nI_eq (by omega) (by omega)]; omega
            subst kb kmm
            have eb : ix_x (b_sum j) (nI bk) = nI (max q bk) := by rw [kq, ix_nat (by omega) (by omega)]
            have e12 : sr_f (p * 13) (fun x => ix_x (a_table x) (a_behind (p * 13 + x))) a_behind 13 (p * 13 + 12) = nI (bs + max q bk) := by
              rw [rr_m (by omega) (by omega) (by omega) e4 kb12]
              exact congrArg nI (by omega)
            have hrr := rr_rm hw A kr
            refine tb_step (at2 := nI p ^^^ (-1)) (rd := a_rounds) (tb := sw_f (fun x => sr_f (p * 13) (fun x => ix_x (a_table x) (a_behind (p * 13 + x))) a_behind 13 (p * 13 + x)) a_table 13) (bf := a_before) (be := sr_f (p * 13) (fun x => ix_x (a_table x) (a_behind (p * 13 + x))) a_behind 13) (sn := a_sureness) (un := nI j) (bk := nI (max q bk)) (ag := sw_f (fun x => sr_f (12 * j) (fun x => ix_x (b_greatest (12 * j + x)) (b_ages x)) b_greatest 12 (12 * j + x)) b_ages 12) (nd := b_node) (ph := upd b_phase j (b_phase j + 1)) (sm := b_sum) (sv := b_saved) (gr := sr_f (12 * j) (fun x => ix_x (b_greatest (12 * j + x)) (b_ages x)) b_greatest 12) (me := b_met) (us := b_unsure) (fun post F h => xb_out hn hr hroot (by omega) ?_) (fun h_open h_time h_chosen h_kept h_worst h_best h_worstRuns h_worstChoices h_ends b_todo b_path b_tops b_cache b_missed b_struck b_worstPath b_mostMissed b_mostStruck b_leastMissed b_held b_contents post F h => yf_go (h_under := 0) hp hj20 hnd (fun y => absurd y (by rw [y1]; decide)) (fun y => absurd y (by rw [y1]; decide)) (fun y => absurd y (by rw [y1]; decide)) (fun _ => ?_) (fun y => absurd y (by rw [y1]; decide)) hk) (ih _ _ _ _ _ _ _ _ _ _ _ _ _ _ _ _ _ ⟨j, p, bs, mm, fr_upd (by omega) C' (fun _ _ => rfl) (fun x hx => ⟨rfl, sr_out (by omega)⟩) (fun i hi => ⟨rfl, us_n (by omega), rfl⟩) (fun x hx => ⟨rfl, sr_out (by omega)⟩), ag_row hrr, S, by omega, Or.inr ⟨rfl, rfl, ⟨max q bk, rfl, by rw [sw_lt (by omega)]; exact e12, by omega⟩, by omega⟩⟩)
            · refine xw_leave hn hp hpar (fun y => absurd y hnf) (fun _ => ?_)
              exact xw_22 hp (fun y => absurd y (by rw [x1]; decide)) (fun y => absurd y (by rw [x1]; decide)) (fun _ _ => nm_r (nI_1 st) h) (fun _ y => absurd rfl y) (fun _ y => absurd x1 y)
            · refine yg_if (h_under := 0) hp hj21 (fun y => absurd y (by rw [kp]; decide)) (fun y => absurd y (by rw [kp]; decide)) (fun _ _ => ?_)
              rw [eb]
              exact h
          · have hfs : g 1 p < p ∧ g 3 p ≤ g 4 p ∧ g 4 p ≤ 4 := by obtain ⟨-, -, N | N | N | N | N⟩ := Pg <;> omega
            obtain ⟨hfp, hlh, hh4⟩ := hfs
            rw [k0] at x1 y1
            have yf := y3 (by omega)
            obtain ⟨yl, yh⟩ := y5 k0
            have hpar := x5 (by omega)
            rw [← kn] at hpar
            have xf := x2
            rw [← kn] at xf
            subst kb kmm
            have eb : b_sum j + nI bk = nI (q + bk) := by rw [kq, nI_add]
            have ex : ∃ be' gr' : Nat → Int32, ((g 3 p ≤ i ∧ be' = sr_f (p * 13) (fun x => ix_x (a_table x) (a_behind (p * 13 + x))) a_behind 13) ∨ (i < g 3 p ∧ be' = a_behind)) ∧ ((i < g 3 p ∧ gr' = b_greatest) ∨ (i = g 3 p ∧ gr' = sr_f (12 * j) b_ages b_greatest 12) ∨ (g 3 p < i ∧ gr' = sr_f (12 * j) (fun x => ix_x (b_greatest (12 * j + x)) (b_ages x)) b_greatest 12)) ∧
                ((g 3 p < i + 1 ∧ fr_r w be' gr' p j ∧ be' (p * 13 + 12) = nI (bs' + (q + bk))) ∨ (i + 1 ≤ g 3 p ∧ fr_z be' p)) ∧ (∀ x, (p + 1) * 13 ≤ x → be' x = a_behind x) ∧ (∀ x, x < 12 * j → gr' x = b_greatest x) := by
              rcases Nat.lt_trichotomy i (g 3 p) with z | z | z
              · have kz : fr_z a_behind p := by
                  rcases kc with ⟨c1, -⟩ | ⟨-, c2⟩
                  · omega
                  · exact c2
                exact ⟨a_behind, b_greatest, Or.inr ⟨z, rfl⟩, Or.inl ⟨z, rfl⟩, Or.inr ⟨by omega, kz⟩, fun _ _ => rfl, fun _ _ => rfl⟩
              · have kz : fr_z a_behind p := by
                  rcases kc with ⟨c1, -⟩ | ⟨-, c2⟩
                  · omega
                  · exact c2
                refine ⟨sr_f (p * 13) (fun x => ix_x (a_table x) (a_behind (p * 13 + x))) a_behind 13, sr_f (12 * j) b_ages b_greatest 12, Or.inl ⟨by omega, rfl⟩, Or.inr (Or.inl ⟨z, rfl⟩), Or.inl ⟨by omega, rr_rz hw A kz, ?_⟩, fun x hx => sr_out (by omega), fun x hx => sr_out (by omega)⟩
                rw [rr_z kz (by omega) (by omega) e4, Nat.add_assoc]
              · obtain ⟨c2, e, ce, c3⟩ : fr_r w a_behind b_greatest p j ∧ ∃ e, e ≤ bs' + q ∧ a_behind (p * 13 + 12) = nI e := by
                  rcases kc with ⟨c1, c2, c3⟩ | ⟨c1, -⟩
                  · exact ⟨c2, c3⟩
                  · omega
                refine ⟨sr_f (p * 13) (fun x => ix_x (a_table x) (a_behind (p * 13 + x))) a_behind 13, sr_f (12 * j) (fun x => ix_x (b_greatest (12 * j + x)) (b_ages x)) b_greatest 12, Or.inl ⟨by omega, rfl⟩, Or.inr (Or.inr ⟨z, rfl⟩), Or.inl ⟨by omega, rr_rm hw A c2, ?_⟩, fun x hx => sr_out (by omega), fun x hx => sr_out (by omega)⟩
                rw [rr_m (by omega) (by omega) (by omega) e4 c3]
                exact congrArg nI (by omega)
            obtain ⟨be', gr', b1, b2, b3, b4, b5⟩ := ex
            by_cases z : i < g 4 p
            · have me : g 8 (g 1 p) + (g 4 p - (i + 1)) * g 8 (g 1 p) = (g 4 p - i) * g 8 (g 1 p) := by
                obtain ⟨v, hv⟩ : ∃ v, g 4 p - i = v + 1 := ⟨g 4 p - i - 1, by omega⟩
                rw [hv, show g 4 p - (i + 1) = v by omega, Nat.succ_mul, Nat.add_comm]
              refine tb_step (at2 := nI (g 1 p)) (rd := upd a_rounds p (nI (i + 1))) (tb := a_table) (bf := a_before) (be := be') (sn := a_sureness) (un := nI (j + 1 + 1)) (bk := nI bk) (ag := b_ages) (nd := upd b_node (j + 1) (b_firsts p)) (ph := upd (upd b_phase j (nI (i + 1))) (j + 1) 0) (sm := upd b_sum j (nI (q + bk))) (sv := b_saved) (gr := gr') (me := b_met) (us := b_unsure) (fun post F h => xb_out hn hr hroot (by omega) ?_) (fun h_open h_time h_chosen h_kept h_worst h_best h_worstRuns h_worstChoices h_ends b_todo b_path b_tops b_cache b_missed b_struck b_worstPath b_mostMissed b_mostStruck b_leastMissed b_held b_contents post F h => yf_go (h_under := 0) hp hj20 hnd (fun y => absurd y (by rw [y1]; decide)) (fun y => absurd y (by rw [y1]; decide)) (fun y => absurd y (by rw [y1]; decide)) (fun y => absurd y (by rw [y1]; decide)) (fun _ => ?_) hk) (ih _ _ _ _ _ _ _ _ _ _ _ _ _ _ _ _ _ ⟨j + 1, g 1 p, bs' + (q + bk), (g 4 p - (i + 1)) * g 8 (g 1 p) + mm', ⟨p, bs', mm', hfp, hpr, fr_upd (by omega) C' (fun x hx => us_n (by omega)) (fun x hx => ⟨rfl, b4 x hx⟩) (fun i hi => ⟨us_n (by omega), by rw [us_n (by omega), us_n (by omega)], us_n (by omega)⟩) (fun x hx => ⟨rfl, b5 x hx⟩), by rw [us_n (by omega)]; exact hnd, by omega, Or.inr (Or.inr (Or.inr (Or.inr ⟨k0, rfl, i + 1, q + bk, by omega, by omega, us_s, by rw [us_n (by omega), us_s], us_s, rfl, rfl, ?_⟩)))⟩, A, S, by omega, Or.inl ⟨rfl, rfl, by rw [us_s, yf], us_s, by rw [e4, Nat.add_assoc], by omega, by omega⟩⟩)
              · refine xw_leave hn hp hpar (fun _ => ?_) (fun y => absurd xf.symm y)
                refine xw_22 hp (fun y => absurd y (by rw [x1]; decide)) (fun y => absurd y (by rw [x1]; decide)) (fun y => absurd y (by rw [x1]; decide)) (fun y => absurd y (by rw [x1]; decide)) (fun _ _ => ?_)
                refine xt_next (i := i) hp (by omega) hh4 (by omega) krd x3 x4 b1 (fun _ => nm_r (nI_1 st) ?_) (fun y => absurd z y)
                rw [x2]
                exact h
              · exact yg_loop (h_under := 0) (i := i) hp hj21 (by omega) hh4 (by omega) yl yh kp (Or.inr ⟨by omega, eb.symm⟩) b2 (fun _ => h) (fun y => absurd z y)
              · rcases b3 with ⟨c1, c2, c3⟩ | ⟨c1, c2⟩
                · exact Or.inl ⟨c1, c2, bs' + (q + bk), Nat.le_refl _, c3⟩
                · exact Or.inr ⟨c1, c2⟩
            · have b3' : fr_r w be' gr' p j ∧ be' (p * 13 + 12) = nI (bs' + (q + bk)) := by
                rcases b3 with ⟨c1, c2, c3⟩ | ⟨c1, c2⟩
                · exact ⟨c2, c3⟩
                · omega
              refine tb_step (at2 := nI p ^^^ (-1)) (rd := a_rounds) (tb := sw_f (fun x => be' (p * 13 + x)) a_table 13) (bf := a_before) (be := be') (sn := a_sureness) (un := nI j) (bk := nI (q + bk)) (ag := sw_f (fun x => gr' (12 * j + x)) b_ages 12) (nd := b_node) (ph := upd b_phase j (nI (i + 1))) (sm := upd b_sum j (nI (q + bk))) (sv := b_saved) (gr := gr') (me := b_met) (us := b_unsure) (fun post F h => xb_out hn hr hroot (by omega) ?_) (fun h_open h_time h_chosen h_kept h_worst h_best h_worstRuns h_worstChoices h_ends b_todo b_path b_tops b_cache b_missed b_struck b_worstPath b_mostMissed b_mostStruck b_leastMissed b_held b_contents post F h => yf_go (h_under := 0) hp hj20 hnd (fun y => absurd y (by rw [y1]; decide)) (fun y => absurd y (by rw [y1]; decide)) (fun y => absurd y (by rw [y1]; decide)) (fun y => absurd y (by rw [y1]; decide)) (fun _ => ?_) hk) (ih _ _ _ _ _ _ _ _ _ _ _ _ _ _ _ _ _ ⟨j, p, bs', mm', fr_upd (by omega) C' (fun _ _ => rfl) (fun x hx => ⟨rfl, b4 x hx⟩) (fun i hi => ⟨rfl, us_n (by omega), us_n (by omega)⟩) (fun x hx => ⟨rfl, b5 x hx⟩), ag_row b3'.1, S, by omega, Or.inr ⟨rfl, rfl, ⟨q + bk, rfl, by rw [sw_lt (by omega)]; exact b3'.2, by omega⟩, by omega⟩⟩)
              · refine xw_leave hn hp hpar (fun _ => ?_) (fun y => absurd xf.symm y)
                refine xw_22 hp (fun y => absurd y (by rw [x1]; decide)) (fun y => absurd y (by rw [x1]; decide)) (fun y => absurd y (by rw [x1]; decide)) (fun y => absurd y (by rw [x1]; decide)) (fun _ _ => ?_)
                exact xt_next (i := i) hp (by omega) hh4 (by omega) krd x3 x4 b1 (fun y => absurd y z) (fun _ => nm_r (nI_1 st) h)
              · exact yg_loop (h_under := 0) (i := i) hp hj21 (by omega) hh4 (by omega) yl yh kp (Or.inr ⟨by omega, eb.symm⟩) b2 (fun y => absurd y z) (fun _ => h)
end
section
/-! the walk over the tables, from its beginning to its end -/
theorem xq_88 {f_setBits : Int32} {f_placeCount : Int32} {f_made : Int32} {f_height : Int32} {f_pathCount : Int32} {f_greatestLength : Int32} {f_worstTime : Int32} {f_bestTime : Int32} {f_worstCount : Int32} {f_programBound : Int32} {f_endingCount : Int32} {f_chosen : Int32} {f_time : Int32} {a_kind : Nat → Int32} {a_first : Nat → Int32} {a_second : Nat → Int32} {a_low : Nat → Int32} {a_high : Nat → Int32} {a_parent : Nat → Int32} {a_pathsOf : Nat → Int32} {a_lengthOf : Nat → Int32} {a_choicesOf : Nat → Int32} {a_stack : Nat → Int32} {a_worstPath : Nat → Int32} {a_sureness : Nat → Int32} {a_mostMisses : Nat → Int32} {a_mostHits : Nat → Int32} {a_leastMisses : Nat → Int32} {a_endings : Nat → Int64} {a_runsHolding : Nat → Int32} {a_rounds : Nat → Int32} {a_path : Nat → Int32} {a_pathTop : Nat → Int32} {a_cache : Nat → Int32} {a_runMisses : Nat → Int32} {a_runHits : Nat → Int32} {a_table : Nat → Int32} {a_before : Nat → Int32} {a_behind : Nat → Int32} {post : SX → Prop} (H : post (f_setBits, f_placeCount, f_made, f_height, f_pathCount, f_greatestLength, f_worstTime, f_bestTime, f_worstCount, f_programBound, f_endingCount, f_chosen, f_time, a_kind, a_first, a_second, a_low, a_high, a_parent, a_pathsOf, a_lengthOf, a_choicesOf, a_stack, a_worstPath, sw_f (fun j => if a_sureness j = 2 then 0 else a_sureness j) a_sureness 18, a_mostMisses, a_mostHits, a_leastMisses, a_endings, a_runsHolding, a_rounds, a_path, a_pathTop, a_cache, a_runMisses, a_runHits, a_table, a_before, a_behind)) :
    ∀ d i, i + d = 18 → wX_walkTables_88 post f_setBits f_placeCount f_made f_height f_pathCount f_greatestLength f_worstTime f_bestTime f_worstCount f_programBound f_endingCount f_chosen f_time (d + 1) (nI i) a_kind a_first a_second a_low a_high a_parent a_pathsOf a_lengthOf a_choicesOf a_stack a_worstPath (sw_f (fun j => if a_sureness j = 2 then 0 else a_sureness j) a_sureness i) a_mostMisses a_mostHits a_leastMisses a_endings a_runsHolding a_rounds a_path a_pathTop a_cache a_runMisses a_runHits a_table a_before a_behind := by
  intro d
  induction d with
  | zero =>
    intro i hi
    have hi : i = 18 := by omega
    subst hi
    exact br_t (by decide) H
  | succ d ih =>
    intro i hi
    have c : (nI i).toNatClampNeg = i := nI_clamp (by omega)
    have ii : vp_in (nI i) 18 := vp_in_nI (by omega) (by omega)
    refine br_f (nI_ge (b := 18) (by omega) (by omega)) ⟨ii, ?_⟩
    rw [c, sw_at]
    refine br_c (fun z => ⟨ii, ?_⟩) (fun z => nm_r (nI_1 i) ?_)
    · rw [sw_u (by rw [if_pos z])]
      exact nm_e (nm_r (nI_1 i) (ih (i + 1) (by omega)))
    · rw [sw_k (i := i) (by rw [if_neg z])]
      exact ih (i + 1) (by omega)
theorem xq_2 {f_setBits : Int32} {f_placeCount : Int32} {f_made : Int32} {f_height : Int32} {f_pathCount : Int32} {f_greatestLength : Int32} {f_worstTime : Int32} {f_bestTime : Int32} {f_worstCount : Int32} {f_programBound : Int32} {f_endingCount : Int32} {f_chosen : Int32} {f_time : Int32} {a_kind : Nat → Int32} {a_first : Nat → Int32} {a_second : Nat → Int32} {a_low : Nat → Int32} {a_high : Nat → Int32} {a_parent : Nat → Int32} {a_pathsOf : Nat → Int32} {a_lengthOf : Nat → Int32} {a_choicesOf : Nat → Int32} {a_stack : Nat → Int32} {a_worstPath : Nat → Int32} {a_sureness : Nat → Int32} {a_mostMisses : Nat → Int32} {a_mostHits : Nat → Int32} {a_leastMisses : Nat → Int32} {a_endings : Nat → Int64} {a_runsHolding : Nat → Int32} {a_rounds : Nat → Int32} {a_path : Nat → Int32} {a_pathTop : Nat → Int32} {a_cache : Nat → Int32} {a_runMisses : Nat → Int32} {a_runHits : Nat → Int32} {a_table : Nat → Int32} {a_before : Nat → Int32} {a_behind : Nat → Int32} {post : SX → Prop} {root : Int32} (H : ∃ n36 : Nat, wX_walkTables_36 post root n36 root 0 f_setBits f_placeCount f_made f_height f_pathCount f_greatestLength f_worstTime f_bestTime f_worstCount f_programBound f_endingCount f_chosen f_time a_kind a_first a_second a_low a_high a_parent a_pathsOf a_lengthOf a_choicesOf a_stack a_worstPath a_sureness a_mostMisses a_mostHits a_leastMisses a_endings a_runsHolding a_rounds a_path a_pathTop a_cache a_runMisses a_runHits (upd (sw_f (fun _ => f_placeCount) a_table 12) 12 0) a_before a_behind) :
    ∀ d i, i + d = 12 → wX_walkTables_2 post root f_setBits f_placeCount f_made f_height f_pathCount f_greatestLength f_worstTime f_bestTime f_worstCount f_programBound f_endingCount f_chosen f_time (d + 1) (nI i) a_kind a_first a_second a_low a_high a_parent a_pathsOf a_lengthOf a_choicesOf a_stack a_worstPath a_sureness a_mostMisses a_mostHits a_leastMisses a_endings a_runsHolding a_rounds a_path a_pathTop a_cache a_runMisses a_runHits (sw_f (fun _ => f_placeCount) a_table i) a_before a_behind := by
  intro d
  induction d with
  | zero =>
    intro i hi
    have hi : i = 12 := by omega
    subst hi
    exact br_t (by decide) (nm_e H)
  | succ d ih =>
    intro i hi
    have c : (nI i).toNatClampNeg = i := nI_clamp (by omega)
    have ii : vp_in (nI i) 13 := vp_in_nI (by omega) (by omega)
    refine br_f (nI_ge (b := 12) (by omega) (by omega)) ⟨ii, um_u c (nm_r (nI_1 i) ?_)⟩
    rw [sw_u rfl]
    exact ih (i + 1) (by omega)
theorem yq_26 {h_sets : Int32} {h_places : Int32} {h_made : Int32} {h_depth : Int32} {h_size : Int32} {h_open : Int32} {h_time : Int32} {h_chosen : Int32} {h_kept : Int32} {h_worst : Int32} {h_best : Int32} {h_worstRuns : Int32} {h_worstChoices : Int32} {h_ends : Int32} {h_bound : Int32} {h_under : Int32} {h_back : Int32} {b_sorts : Nat → Int32} {b_lows : Nat → Int32} {b_highs : Nat → Int32} {b_firsts : Nat → Int32} {b_seconds : Nat → Int32} {b_stack : Nat → Int32} {b_pathsOf : Nat → Int32} {b_lengthOf : Nat → Int32} {b_choicesOf : Nat → Int32} {b_todo : Nat → Int32} {b_cache : Nat → Int32} {b_path : Nat → Int32} {b_tops : Nat → Int32} {b_missed : Nat → Int32} {b_struck : Nat → Int32} {b_worstPath : Nat → Int32} {b_mostMissed : Nat → Int32} {b_mostStruck : Nat → Int32} {b_leastMissed : Nat → Int32} {b_held : Nat → Int32} {b_contents : Nat → Int64} {b_ages : Nat → Int32} {b_phase : Nat → Int32} {b_node : Nat → Int32} {b_sum : Nat → Int32} {b_saved : Nat → Int32} {b_greatest : Nat → Int32} {b_met : Nat → Int32} {b_unsure : Nat → Int32} {post : SY → Prop} (H : wpY_enter (fun u => match u with | (h_sets, h_places, h_made, h_depth, h_size, h_open, h_time, h_chosen, h_kept, h_worst, h_best, h_worstRuns, h_worstChoices, h_ends, h_bound, h_under, h_back, b_sorts, b_lows, b_highs, b_firsts, b_seconds, b_stack, b_pathsOf, b_lengthOf, b_choicesOf, b_todo, b_cache, b_path, b_tops, b_missed, b_struck, b_worstPath, b_mostMissed, b_mostStruck, b_leastMissed, b_held, b_contents, b_ages, b_phase, b_node, b_sum, b_saved, b_greatest, b_met, b_unsure) => ∃ n67 : Nat, wY_findBound_67 post n67 h_sets h_places h_made h_depth h_size h_open h_time h_chosen h_kept h_worst h_best h_worstRuns h_worstChoices h_ends h_bound h_under h_back b_sorts b_lows b_highs b_firsts b_seconds b_stack b_pathsOf b_lengthOf b_choicesOf b_todo b_cache b_path b_tops b_missed b_struck b_worstPath b_mostMissed b_mostStruck b_leastMissed b_held b_contents b_ages b_phase b_node b_sum b_saved b_greatest b_met b_unsure) (h_sets, h_places, h_made, h_depth, h_size, h_open, h_time, h_chosen, h_kept, h_worst, h_best, h_worstRuns, h_worstChoices, h_ends, h_bound, nI 0, h_back, b_sorts, b_lows, b_highs, b_firsts, b_seconds, b_stack, b_pathsOf, b_lengthOf, b_choicesOf, b_todo, b_cache, b_path, b_tops, b_missed, b_struck, b_worstPath, b_mostMissed, b_mostStruck, b_leastMissed, b_held, b_contents, b_ages, b_phase, b_node, b_sum, b_saved, b_greatest, sw_f (fun _ => 0) b_met 18, sw_f (fun _ => 0) b_unsure 18) (h_size - 1)) :
    ∀ d i, i + d = 18 → wY_findBound_26 post h_sets h_places h_made h_depth h_size h_open h_time h_chosen h_kept h_worst h_best h_worstRuns h_worstChoices h_ends h_bound h_under h_back (d + 1) (nI i) b_sorts b_lows b_highs b_firsts b_seconds b_stack b_pathsOf b_lengthOf b_choicesOf b_todo b_cache b_path b_tops b_missed b_struck b_worstPath b_mostMissed b_mostStruck b_leastMissed b_held b_contents b_ages b_phase b_node b_sum b_saved b_greatest (sw_f (fun _ => 0) b_met i) (sw_f (fun _ => 0) b_unsure i) := by
  have nb : vp_nar .boolean 0 = 0 := rfl
  intro d
  induction d with
  | zero =>
    intro i hi
    have hi : i = 18 := by omega
    subst hi
    exact br_t (by decide) H
  | succ d ih =>
    intro i hi
    have c : (nI i).toNatClampNeg = i := nI_clamp (by omega)
    have ii : vp_in (nI i) 18 := vp_in_nI (by omega) (by omega)
    refine br_f (nI_ge (b := 18) (by omega) (by omega)) ⟨ii, ?_⟩
    rw [c, nb]
    rw [sw_u rfl, sw_u rfl]
    exact nm_e ⟨ii, nm_e (nm_r (nI_1 i) (ih (i + 1) (by omega)))⟩
theorem yq_2 {h_sets : Int32} {h_places : Int32} {h_made : Int32} {h_depth : Int32} {h_size : Int32} {h_open : Int32} {h_time : Int32} {h_chosen : Int32} {h_kept : Int32} {h_worst : Int32} {h_best : Int32} {h_worstRuns : Int32} {h_worstChoices : Int32} {h_ends : Int32} {h_bound : Int32} {h_under : Int32} {h_back : Int32} {b_sorts : Nat → Int32} {b_lows : Nat → Int32} {b_highs : Nat → Int32} {b_firsts : Nat → Int32} {b_seconds : Nat → Int32} {b_stack : Nat → Int32} {b_pathsOf : Nat → Int32} {b_lengthOf : Nat → Int32} {b_choicesOf : Nat → Int32} {b_todo : Nat → Int32} {b_cache : Nat → Int32} {b_path : Nat → Int32} {b_tops : Nat → Int32} {b_missed : Nat → Int32} {b_struck : Nat → Int32} {b_worstPath : Nat → Int32} {b_mostMissed : Nat → Int32} {b_mostStruck : Nat → Int32} {b_leastMissed : Nat → Int32} {b_held : Nat → Int32} {b_contents : Nat → Int64} {b_ages : Nat → Int32} {b_phase : Nat → Int32} {b_node : Nat → Int32} {b_sum : Nat → Int32} {b_saved : Nat → Int32} {b_greatest : Nat → Int32} {b_met : Nat → Int32} {b_unsure : Nat → Int32} {post : SY → Prop} (H : wpY_enter (fun u => match u with | (h_sets, h_places, h_made, h_depth, h_size, h_open, h_time, h_chosen, h_kept, h_worst, h_best, h_worstRuns, h_worstChoices, h_ends, h_bound, h_under, h_back, b_sorts, b_lows, b_highs, b_firsts, b_seconds, b_stack, b_pathsOf, b_lengthOf, b_choicesOf, b_todo, b_cache, b_path, b_tops, b_missed, b_struck, b_worstPath, b_mostMissed, b_mostStruck, b_leastMissed, b_held, b_contents, b_ages, b_phase, b_node, b_sum, b_saved, b_greatest, b_met, b_unsure) => ∃ n67 : Nat, wY_findBound_67 post n67 h_sets h_places h_made h_depth h_size h_open h_time h_chosen h_kept h_worst h_best h_worstRuns h_worstChoices h_ends h_bound h_under h_back b_sorts b_lows b_highs b_firsts b_seconds b_stack b_pathsOf b_lengthOf b_choicesOf b_todo b_cache b_path b_tops b_missed b_struck b_worstPath b_mostMissed b_mostStruck b_leastMissed b_held b_contents b_ages b_phase b_node b_sum b_saved b_greatest b_met b_unsure) (h_sets, h_places, h_made, h_depth, h_size, h_open, h_time, h_chosen, h_kept, h_worst, h_best, h_worstRuns, h_worstChoices, h_ends, h_bound, nI 0, h_back, b_sorts, b_lows, b_highs, b_firsts, b_seconds, b_stack, b_pathsOf, b_lengthOf, b_choicesOf, b_todo, b_cache, b_path, b_tops, b_missed, b_struck, b_worstPath, b_mostMissed, b_mostStruck, b_leastMissed, b_held, b_contents, sw_f (fun _ => h_places) b_ages 12, b_phase, b_node, b_sum, b_saved, b_greatest, sw_f (fun _ => 0) b_met 18, sw_f (fun _ => 0) b_unsure 18) (h_size - 1)) :
    ∀ d i, i + d = 12 → wY_findBound_2 post h_sets h_places h_made h_depth h_size h_open h_time h_chosen h_kept h_worst h_best h_worstRuns h_worstChoices h_ends h_bound h_under h_back (d + 1) (nI i) b_sorts b_lows b_highs b_firsts b_seconds b_stack b_pathsOf b_lengthOf b_choicesOf b_todo b_cache b_path b_tops b_missed b_struck b_worstPath b_mostMissed b_mostStruck b_leastMissed b_held b_contents (sw_f (fun _ => h_places) b_ages i) b_phase b_node b_sum b_saved b_greatest b_met b_unsure := by
  intro d
  induction d with
  | zero =>
    intro i hi
    have hi : i = 12 := by omega
    subst hi
    have L := yq_26 (b_met := b_met) (b_unsure := b_unsure) (h_under := h_under) H 18 0 (by omega)
    rw [sw_0, sw_0] at L
    exact br_t (by decide) ⟨19, L⟩
  | succ d ih =>
    intro i hi
    have c : (nI i).toNatClampNeg = i := nI_clamp (by omega)
    have ii : vp_in (nI i) 12 := vp_in_nI (by omega) (by omega)
    refine br_f (nI_ge (b := 12) (by omega) (by omega)) ⟨ii, um_u c (nm_r (nI_1 i) ?_)⟩
    rw [sw_u rfl]
    exact ih (i + 1) (by omega)
theorem yq_find {h_sets : Int32} {h_places : Int32} {h_made : Int32} {h_depth : Int32} {h_size : Int32} {h_open : Int32} {h_time : Int32} {h_chosen : Int32} {h_kept : Int32} {h_worst : Int32} {h_best : Int32} {h_worstRuns : Int32} {h_worstChoices : Int32} {h_ends : Int32} {h_bound : Int32} {h_under : Int32} {h_back : Int32} {b_sorts : Nat → Int32} {b_lows : Nat → Int32} {b_highs : Nat → Int32} {b_firsts : Nat → Int32} {b_seconds : Nat → Int32} {b_stack : Nat → Int32} {b_pathsOf : Nat → Int32} {b_lengthOf : Nat → Int32} {b_choicesOf : Nat → Int32} {b_todo : Nat → Int32} {b_cache : Nat → Int32} {b_path : Nat → Int32} {b_tops : Nat → Int32} {b_missed : Nat → Int32} {b_struck : Nat → Int32} {b_worstPath : Nat → Int32} {b_mostMissed : Nat → Int32} {b_mostStruck : Nat → Int32} {b_leastMissed : Nat → Int32} {b_held : Nat → Int32} {b_contents : Nat → Int64} {b_ages : Nat → Int32} {b_phase : Nat → Int32} {b_node : Nat → Int32} {b_sum : Nat → Int32} {b_saved : Nat → Int32} {b_greatest : Nat → Int32} {b_met : Nat → Int32} {b_unsure : Nat → Int32} {post : SY → Prop} {root F : Nat} (hr : root < 18) (hsz : h_size = nI (root + 1)) (H : wY_findBound_67 post F h_sets h_places h_made h_depth h_size h_open h_time h_chosen h_kept h_worst h_best h_worstRuns h_worstChoices h_ends h_bound (nI (0 + 1)) h_back b_sorts b_lows b_highs b_firsts b_seconds b_stack b_pathsOf b_lengthOf b_choicesOf b_todo b_cache b_path b_tops b_missed b_struck b_worstPath b_mostMissed b_mostStruck b_leastMissed b_held b_contents (sw_f (fun _ => h_places) b_ages 12) (upd b_phase 0 0) (upd b_node 0 (nI root)) b_sum b_saved b_greatest (sw_f (fun _ => 0) b_met 18) (sw_f (fun _ => 0) b_unsure 18)) : wpY_findBound post (h_sets, h_places, h_made, h_depth, h_size, h_open, h_time, h_chosen, h_kept, h_worst, h_best, h_worstRuns, h_worstChoices, h_ends, h_bound, h_under, h_back, b_sorts, b_lows, b_highs, b_firsts, b_seconds, b_stack, b_pathsOf, b_lengthOf, b_choicesOf, b_todo, b_cache, b_path, b_tops, b_missed, b_struck, b_worstPath, b_mostMissed, b_mostStruck, b_leastMissed, b_held, b_contents, b_ages, b_phase, b_node, b_sum, b_saved, b_greatest, b_met, b_unsure) := by
  subst hsz
  have P : wpY_enter (fun u => match u with | (h_sets, h_places, h_made, h_depth, h_size, h_open, h_time, h_chosen, h_kept, h_worst, h_best, h_worstRuns, h_worstChoices, h_ends, h_bound, h_under, h_back, b_sorts, b_lows, b_highs, b_firsts, b_seconds, b_stack, b_pathsOf, b_lengthOf, b_choicesOf, b_todo, b_cache, b_path, b_tops, b_missed, b_struck, b_worstPath, b_mostMissed, b_mostStruck, b_leastMissed, b_held, b_contents, b_ages, b_phase, b_node, b_sum, b_saved, b_greatest, b_met, b_unsure) => ∃ n67 : Nat, wY_findBound_67 post n67 h_sets h_places h_made h_depth h_size h_open h_time h_chosen h_kept h_worst h_best h_worstRuns h_worstChoices h_ends h_bound h_under h_back b_sorts b_lows b_highs b_firsts b_seconds b_stack b_pathsOf b_lengthOf b_choicesOf b_todo b_cache b_path b_tops b_missed b_struck b_worstPath b_mostMissed b_mostStruck b_leastMissed b_held b_contents b_ages b_phase b_node b_sum b_saved b_greatest b_met b_unsure) (h_sets, h_places, h_made, h_depth, nI (root + 1), h_open, h_time, h_chosen, h_kept, h_worst, h_best, h_worstRuns, h_worstChoices, h_ends, h_bound, nI 0, h_back, b_sorts, b_lows, b_highs, b_firsts, b_seconds, b_stack, b_pathsOf, b_lengthOf, b_choicesOf, b_todo, b_cache, b_path, b_tops, b_missed, b_struck, b_worstPath, b_mostMissed, b_mostStruck, b_leastMissed, b_held, b_contents, sw_f (fun _ => h_places) b_ages 12, b_phase, b_node, b_sum, b_saved, b_greatest, sw_f (fun _ => 0) b_met 18, sw_f (fun _ => 0) b_unsure 18) (nI (root + 1) - 1) := by
    rw [nI_pred]
    exact ye_enter (j := 0) (h_under := 0) (by omega) ⟨F, H⟩
  have L := yq_2 (b_ages := b_ages) (h_under := h_under) P 12 0 (by omega)
  rw [sw_0] at L
  exact Exists.intro 13 L
theorem tw_all {g : Nat → Nat → Nat} {root w s : Nat} {f_setBits : Int32} {f_placeCount : Int32} {f_made : Int32} {f_height : Int32} {f_pathCount : Int32} {f_greatestLength : Int32} {f_worstTime : Int32} {f_bestTime : Int32} {f_worstCount : Int32} {f_programBound : Int32} {f_endingCount : Int32} {f_chosen : Int32} {f_time : Int32} {a_kind : Nat → Int32} {a_first : Nat → Int32} {a_second : Nat → Int32} {a_low : Nat → Int32} {a_high : Nat → Int32} {a_parent : Nat → Int32} {a_pathsOf : Nat → Int32} {a_lengthOf : Nat → Int32} {a_choicesOf : Nat → Int32} {a_stack : Nat → Int32} {a_worstPath : Nat → Int32} {a_sureness : Nat → Int32} {a_mostMisses : Nat → Int32} {a_mostHits : Nat → Int32} {a_leastMisses : Nat → Int32} {a_endings : Nat → Int64} {a_runsHolding : Nat → Int32} {a_rounds : Nat → Int32} {a_path : Nat → Int32} {a_pathTop : Nat → Int32} {a_cache : Nat → Int32} {a_runMisses : Nat → Int32} {a_runHits : Nat → Int32} {a_table : Nat → Int32} {a_before : Nat → Int32} {a_behind : Nat → Int32} {h_sets : Int32} {h_places : Int32} {h_made : Int32} {h_depth : Int32} {h_size : Int32} {h_bound : Int32} {h_under : Int32} {h_back : Int32} {b_sorts : Nat → Int32} {b_lows : Nat → Int32} {b_highs : Nat → Int32} {b_firsts : Nat → Int32} {b_seconds : Nat → Int32} {b_stack : Nat → Int32} {b_pathsOf : Nat → Int32} {b_lengthOf : Nat → Int32} {b_choicesOf : Nat → Int32} {b_ages : Nat → Int32} {b_phase : Nat → Int32} {b_node : Nat → Int32} {b_sum : Nat → Int32} {b_saved : Nat → Int32} {b_greatest : Nat → Int32} {b_met : Nat → Int32} {b_unsure : Nat → Int32}
    (T : pg_t g (root + 1)) (hr : root < 18) (hw0 : 0 < w) (hw : w ≤ 4) (hs0 : 0 < s) (hs : s ≤ 4) (hb : ∀ x y, x < 12 → y < 12 → ((nI x &&& f_setBits) = (nI y &&& f_setBits) ↔ x % s = y % s))
    (hpc : f_placeCount = nI w) (hsets : h_sets = nI s) (hpl : h_places = nI w) (hsz : h_size = nI (root + 1)) (hL : g 6 root ≤ 120)
    (XT : ∀ n, n ≤ root → xt_n g a_kind a_first a_second a_low a_high a_parent n) (YT : ∀ n, n ≤ root → yt_n g 0 b_sorts b_lows b_highs b_firsts b_seconds n)
    (hsu : ∀ n, n < 18 → (n < root + 1 ∧ g 0 n = 0 → a_sureness n = 2) ∧ (¬ (n < root + 1 ∧ g 0 n = 0) → a_sureness n = -4)) :
    ∃ (bd : Nat) (rd tb bf be sn ag nd ph sm sv gr me us : Nat → Int32), nt_A g (root + 1) sn (fun n => if me n = 0 then 0 else if us n = 0 then 1 else 0) ∧
      (∀ post : SX → Prop, post (f_setBits, f_placeCount, f_made, f_height, f_pathCount, f_greatestLength, f_worstTime, f_bestTime, f_worstCount, nI bd, f_endingCount, f_chosen, f_time, a_kind, a_first, a_second, a_low, a_high, a_parent, a_pathsOf, a_lengthOf, a_choicesOf, a_stack, a_worstPath, sn, a_mostMisses, a_mostHits, a_leastMisses, a_endings, a_runsHolding, rd, a_path, a_pathTop, a_cache, a_runMisses, a_runHits, tb, bf, be) → wpX_walkTables post (f_setBits, f_placeCount, f_made, f_height, f_pathCount, f_greatestLength, f_worstTime, f_bestTime, f_worstCount, f_programBound, f_endingCount, f_chosen, f_time, a_kind, a_first, a_second, a_low, a_high, a_parent, a_pathsOf, a_lengthOf, a_choicesOf, a_stack, a_worstPath, a_sureness, a_mostMisses, a_mostHits, a_leastMisses, a_endings, a_runsHolding, a_rounds, a_path, a_pathTop, a_cache, a_runMisses, a_runHits, a_table, a_before, a_behind) (nI root)) ∧
      (∀ (h_open h_time h_chosen h_kept h_worst h_best h_worstRuns h_worstChoices h_ends : Int32) (b_todo b_path b_tops b_cache b_missed b_struck b_worstPath b_mostMissed b_mostStruck b_leastMissed b_held : Nat → Int32) (b_contents : Nat → Int64), ∀ post : SY → Prop, post (h_sets, h_places, h_made, h_depth, h_size, h_open, h_time, h_chosen, h_kept, h_worst, h_best, h_worstRuns, h_worstChoices, h_ends, nI bd, 0, nI bd, b_sorts, b_lows, b_highs, b_firsts, b_seconds, b_stack, b_pathsOf, b_lengthOf, b_choicesOf, b_todo, b_cache, b_path, b_tops, b_missed, b_struck, b_worstPath, b_mostMissed, b_mostStruck, b_leastMissed, b_held, b_contents, ag, ph, nd, sm, sv, gr, me, us) → wpY_findBound post (h_sets, h_places, h_made, h_depth, h_size, h_open, h_time, h_chosen, h_kept, h_worst, h_best, h_worstRuns, h_worstChoices, h_ends, h_bound, h_under, h_back, b_sorts, b_lows, b_highs, b_firsts, b_seconds, b_stack, b_pathsOf, b_lengthOf, b_choicesOf, b_todo, b_cache, b_path, b_tops, b_missed, b_struck, b_worstPath, b_mostMissed, b_mostStruck, b_leastMissed, b_held, b_contents, b_ages, b_phase, b_node, b_sum, b_saved, b_greatest, b_met, b_unsure)) := by
  have hM := pg_M18 T (by omega) (Nat.lt_succ_self root) hL
  have I : tb_I g root w 87120 0 (nI root) (nI (0 + 1)) h_back a_rounds (upd (sw_f (fun _ => f_placeCount) a_table 12) 12 0) a_before a_behind a_sureness (sw_f (fun _ => h_places) b_ages 12) (upd b_node 0 (nI root)) (upd b_phase 0 0) b_sum b_saved b_greatest (sw_f (fun _ => 0) b_met 18) (sw_f (fun _ => 0) b_unsure 18) := by
    refine ⟨0, root, 0, 0, ⟨rfl, rfl, rfl⟩, fun m hm => ?_, fun n hn => ?_, by omega, Or.inl ⟨rfl, rfl, us_s, us_s, us_s, by omega, by omega⟩⟩
    · rw [us_n (by omega), sw_lt hm, sw_lt hm, hpc, hpl]; exact ⟨rfl, w, Nat.le_refl _, rfl⟩
    · rw [sw_lt hn, sw_lt hn]; exact ⟨fun h => Or.inl ⟨rfl, rfl, (hsu n hn).1 h⟩, (hsu n hn).2⟩
  have G : tb_G g root w f_setBits f_placeCount f_made f_height f_pathCount f_greatestLength f_worstTime f_bestTime f_worstCount f_programBound f_endingCount f_chosen f_time a_kind a_first a_second a_low a_high a_parent a_pathsOf a_lengthOf a_choicesOf a_stack a_worstPath a_sureness a_mostMisses a_mostHits a_leastMisses a_endings a_runsHolding a_rounds a_path a_pathTop a_cache a_runMisses a_runHits (upd (sw_f (fun _ => f_placeCount) a_table 12) 12 0) a_before a_behind h_sets h_places h_made h_depth h_size h_bound (nI (0 + 1)) h_back b_sorts b_lows b_highs b_firsts b_seconds b_stack b_pathsOf b_lengthOf b_choicesOf (sw_f (fun _ => h_places) b_ages 12) (upd b_phase 0 0) (upd b_node 0 (nI root)) b_sum b_saved b_greatest (sw_f (fun _ => 0) b_met 18) (sw_f (fun _ => 0) b_unsure 18) (nI root) 0 := tb_all T hr hw0 hw hs0 hs hb hpc hsets hpl XT YT _ _ _ _ _ _ _ _ _ _ _ _ _ _ _ _ _ _ I
  obtain ⟨bd, rd, tb, bf, be, sn, ag, nd, ph, sm, sv, gr, me, us, F1, F2, e1, e2, e3, e4⟩ := G
  refine ⟨bd, rd, tb, bf, be, sw_f (fun j => if sn j = 2 then 0 else sn j) sn 18, ag, nd, ph, sm, sv, gr, me, us, fun n hn => ?_, fun post h => ?_, fun h_open h_time h_chosen h_kept h_worst h_best h_worstRuns h_worstChoices h_ends b_todo b_path b_tops b_cache b_missed b_struck b_worstPath b_mostMissed b_mostStruck b_leastMissed b_held b_contents post h => ?_⟩
  · rw [sw_lt hn]
    obtain ⟨q1, q2⟩ := e2 n hn
    refine ⟨fun z => ?_, fun z => ?_⟩
    · dsimp only
      rcases q1 z with ⟨a, b, c⟩ | ⟨a, b, c⟩ | ⟨a, b, c⟩
      · rw [a, c]; rfl
      · rw [a, b, c]; rfl
      · rw [a, b, c]; rfl
    · rw [q2 z]; rfl
  · have L88 := xq_88 (f_setBits := f_setBits) (f_placeCount := f_placeCount) (f_made := f_made) (f_height := f_height) (f_pathCount := f_pathCount) (f_greatestLength := f_greatestLength) (f_worstTime := f_worstTime) (f_bestTime := f_bestTime) (f_worstCount := f_worstCount) (f_programBound := tb 12) (f_endingCount := f_endingCount) (f_chosen := f_chosen) (f_time := f_time) (a_kind := a_kind) (a_first := a_first) (a_second := a_second) (a_low := a_low) (a_high := a_high) (a_parent := a_parent) (a_pathsOf := a_pathsOf) (a_lengthOf := a_lengthOf) (a_choicesOf := a_choicesOf) (a_stack := a_stack) (a_worstPath := a_worstPath) (a_sureness := sn) (a_mostMisses := a_mostMisses) (a_mostHits := a_mostHits) (a_leastMisses := a_leastMisses) (a_endings := a_endings) (a_runsHolding := a_runsHolding) (a_rounds := rd) (a_path := a_path) (a_pathTop := a_pathTop) (a_cache := a_cache) (a_runMisses := a_runMisses) (a_runHits := a_runHits) (a_table := tb) (a_before := bf) (a_behind := be) (post := post) (by rw [e1]; exact h) 18 0 (by omega)
    rw [sw_0] at L88
    have L := xq_2 (a_table := a_table) (root := nI root) ⟨F1, e3 post (nm_e ⟨19, L88⟩)⟩ 12 0 (by omega)
    rw [sw_0] at L
    exact Exists.intro 13 L
  · exact yq_find hr hsz (e4 h_open h_time h_chosen h_kept h_worst h_best h_worstRuns h_worstChoices h_ends b_todo b_path b_tops b_cache b_missed b_struck b_worstPath b_mostMissed b_mostStruck b_leastMissed b_held b_contents post h)
end
section
/-! a statement becomes the program -/
theorem xz_0 {f_setBits : Int32} {f_placeCount : Int32} {f_made : Int32} {f_height : Int32} {f_pathCount : Int32} {f_greatestLength : Int32} {f_worstTime : Int32} {f_bestTime : Int32} {f_worstCount : Int32} {f_programBound : Int32} {f_endingCount : Int32} {f_chosen : Int32} {f_time : Int32} {a_kind : Nat → Int32} {a_first : Nat → Int32} {a_second : Nat → Int32} {a_low : Nat → Int32} {a_high : Nat → Int32} {a_parent : Nat → Int32} {a_pathsOf : Nat → Int32} {a_lengthOf : Nat → Int32} {a_choicesOf : Nat → Int32} {a_stack : Nat → Int32} {a_worstPath : Nat → Int32} {a_sureness : Nat → Int32} {a_mostMisses : Nat → Int32} {a_mostHits : Nat → Int32} {a_leastMisses : Nat → Int32} {a_endings : Nat → Int64} {a_runsHolding : Nat → Int32} {a_rounds : Nat → Int32} {a_path : Nat → Int32} {a_pathTop : Nat → Int32} {a_cache : Nat → Int32} {a_runMisses : Nat → Int32} {a_runHits : Nat → Int32} {a_table : Nat → Int32} {a_before : Nat → Int32} {a_behind : Nat → Int32} {post : SX → Prop} {J : Int32 → (Nat → Int32) → (Nat → Int32) → (Nat → Int32) → (Nat → Int32) → (Nat → Int32) → (Nat → Int32) → (Nat → Int32) → (Nat → Int32) → (Nat → Int32) → (Nat → Int32) → (Nat → Int32) → (Nat → Int32) → (Nat → Int32) → (Nat → Int32) → (Nat → Int32) → (Nat → Int64) → (Nat → Int32) → (Nat → Int32) → (Nat → Int32) → (Nat → Int32) → (Nat → Int32) → (Nat → Int32) → (Nat → Int32) → (Nat → Int32) → (Nat → Int32) → (Nat → Int32) → Prop} {i : Nat} (hi : i < 18) (H : J (nI (i + 1)) a_kind a_first a_second a_low a_high a_parent a_pathsOf a_lengthOf a_choicesOf a_stack a_worstPath (upd a_sureness i (-4)) (upd a_mostMisses i (-4)) (upd a_mostHits i (-4)) (upd a_leastMisses i (-4)) a_endings a_runsHolding a_rounds a_path a_pathTop a_cache a_runMisses a_runHits a_table a_before a_behind) : wX_clearAnswers_51 post J (nI i) 0 f_setBits f_placeCount f_made f_height f_pathCount f_greatestLength f_worstTime f_bestTime f_worstCount f_programBound f_endingCount f_chosen f_time a_kind a_first a_second a_low a_high a_parent a_pathsOf a_lengthOf a_choicesOf a_stack a_worstPath a_sureness a_mostMisses a_mostHits a_leastMisses a_endings a_runsHolding a_rounds a_path a_pathTop a_cache a_runMisses a_runHits a_table a_before a_behind := by
  have c : (nI i).toNatClampNeg = i := nI_clamp (by omega)
  have ii : vp_in (nI i) 18 := vp_in_nI (by omega) (by omega)
  exact br_t rfl (And.intro ii (um_u c (br_t rfl (And.intro ii (um_u c (br_t rfl (And.intro ii (um_u c (br_t rfl ⟨ii, um_u c (nm_r (nI_1 i) H)⟩)))))))))
theorem xz_1 {f_setBits : Int32} {f_placeCount : Int32} {f_made : Int32} {f_height : Int32} {f_pathCount : Int32} {f_greatestLength : Int32} {f_worstTime : Int32} {f_bestTime : Int32} {f_worstCount : Int32} {f_programBound : Int32} {f_endingCount : Int32} {f_chosen : Int32} {f_time : Int32} {a_kind : Nat → Int32} {a_first : Nat → Int32} {a_second : Nat → Int32} {a_low : Nat → Int32} {a_high : Nat → Int32} {a_parent : Nat → Int32} {a_pathsOf : Nat → Int32} {a_lengthOf : Nat → Int32} {a_choicesOf : Nat → Int32} {a_stack : Nat → Int32} {a_worstPath : Nat → Int32} {a_sureness : Nat → Int32} {a_mostMisses : Nat → Int32} {a_mostHits : Nat → Int32} {a_leastMisses : Nat → Int32} {a_endings : Nat → Int64} {a_runsHolding : Nat → Int32} {a_rounds : Nat → Int32} {a_path : Nat → Int32} {a_pathTop : Nat → Int32} {a_cache : Nat → Int32} {a_runMisses : Nat → Int32} {a_runHits : Nat → Int32} {a_table : Nat → Int32} {a_before : Nat → Int32} {a_behind : Nat → Int32} {post : SX → Prop} {J : Int32 → (Nat → Int32) → (Nat → Int32) → (Nat → Int32) → (Nat → Int32) → (Nat → Int32) → (Nat → Int32) → (Nat → Int32) → (Nat → Int32) → (Nat → Int32) → (Nat → Int32) → (Nat → Int32) → (Nat → Int32) → (Nat → Int32) → (Nat → Int32) → (Nat → Int32) → (Nat → Int64) → (Nat → Int32) → (Nat → Int32) → (Nat → Int32) → (Nat → Int32) → (Nat → Int32) → (Nat → Int32) → (Nat → Int32) → (Nat → Int32) → (Nat → Int32) → (Nat → Int32) → Prop} {i : Nat} (hi : i < 18) (H : J (nI (i + 1)) a_kind a_first a_second a_low a_high a_parent a_pathsOf a_lengthOf a_choicesOf a_stack a_worstPath (upd a_sureness i 2) (upd a_mostMisses i 0) (upd a_mostHits i 0) (upd a_leastMisses i 1000) a_endings a_runsHolding a_rounds a_path a_pathTop a_cache a_runMisses a_runHits a_table a_before a_behind) : wX_clearAnswers_51 post J (nI i) 1 f_setBits f_placeCount f_made f_height f_pathCount f_greatestLength f_worstTime f_bestTime f_worstCount f_programBound f_endingCount f_chosen f_time a_kind a_first a_second a_low a_high a_parent a_pathsOf a_lengthOf a_choicesOf a_stack a_worstPath a_sureness a_mostMisses a_mostHits a_leastMisses a_endings a_runsHolding a_rounds a_path a_pathTop a_cache a_runMisses a_runHits a_table a_before a_behind := by
  have c : (nI i).toNatClampNeg = i := nI_clamp (by omega)
  have ii : vp_in (nI i) 18 := vp_in_nI (by omega) (by omega)
  have o : ¬ (1 : Int32) = 0 := by decide
  exact br_f o (And.intro ii (um_u c (br_f o (And.intro ii (um_u c (br_f o (And.intro ii (um_u c (br_f o ⟨ii, um_u c (nm_r (nI_1 i) H)⟩)))))))))
theorem xz_148 {f_setBits : Int32} {f_placeCount : Int32} {f_made : Int32} {f_height : Int32} {f_pathCount : Int32} {f_greatestLength : Int32} {f_worstTime : Int32} {f_bestTime : Int32} {f_worstCount : Int32} {f_programBound : Int32} {f_endingCount : Int32} {f_chosen : Int32} {f_time : Int32} {a_kind : Nat → Int32} {a_first : Nat → Int32} {a_second : Nat → Int32} {a_low : Nat → Int32} {a_high : Nat → Int32} {a_parent : Nat → Int32} {a_pathsOf : Nat → Int32} {a_lengthOf : Nat → Int32} {a_choicesOf : Nat → Int32} {a_stack : Nat → Int32} {a_worstPath : Nat → Int32} {a_sureness : Nat → Int32} {a_mostMisses : Nat → Int32} {a_mostHits : Nat → Int32} {a_leastMisses : Nat → Int32} {a_endings : Nat → Int64} {a_runsHolding : Nat → Int32} {a_rounds : Nat → Int32} {a_path : Nat → Int32} {a_pathTop : Nat → Int32} {a_cache : Nat → Int32} {a_runMisses : Nat → Int32} {a_runHits : Nat → Int32} {a_table : Nat → Int32} {a_before : Nat → Int32} {a_behind : Nat → Int32} {post : SX → Prop} (H : post (f_setBits, f_placeCount, f_made, f_height, f_pathCount, f_greatestLength, f_worstTime, f_bestTime, f_worstCount, f_programBound, f_endingCount, f_chosen, f_time, a_kind, a_first, a_second, a_low, a_high, a_parent, a_pathsOf, a_lengthOf, a_choicesOf, a_stack, a_worstPath, a_sureness, a_mostMisses, a_mostHits, a_leastMisses, a_endings, sw_f (fun _ => 0) a_runsHolding 12, a_rounds, a_path, a_pathTop, a_cache, a_runMisses, a_runHits, a_table, a_before, a_behind)) :
    ∀ d i, i + d = 12 → wX_clearAnswers_148 post f_setBits f_placeCount f_made f_height f_pathCount f_greatestLength f_worstTime f_bestTime f_worstCount f_programBound f_endingCount f_chosen f_time (d + 1) (nI i) a_kind a_first a_second a_low a_high a_parent a_pathsOf a_lengthOf a_choicesOf a_stack a_worstPath a_sureness a_mostMisses a_mostHits a_leastMisses a_endings (sw_f (fun _ => 0) a_runsHolding i) a_rounds a_path a_pathTop a_cache a_runMisses a_runHits a_table a_before a_behind := by
  intro d
  induction d with
  | zero =>
    intro i hi
    have hi : i = 12 := by omega
    subst hi
    exact br_t (by decide) H
  | succ d ih =>
    intro i hi
    have c : (nI i).toNatClampNeg = i := nI_clamp (by omega)
    refine br_f (nI_ge (b := 12) (by omega) (by omega)) ⟨vp_in_nI (by omega) (by omega), um_u c (nm_r (nI_1 i) ?_)⟩
    rw [sw_u rfl]
    exact ih (i + 1) (by omega)
theorem xz_126 {f_setBits : Int32} {f_placeCount : Int32} {f_made : Int32} {f_height : Int32} {f_pathCount : Int32} {f_greatestLength : Int32} {f_worstTime : Int32} {f_bestTime : Int32} {f_worstCount : Int32} {f_programBound : Int32} {f_endingCount : Int32} {f_chosen : Int32} {f_time : Int32} {a_kind : Nat → Int32} {a_first : Nat → Int32} {a_second : Nat → Int32} {a_low : Nat → Int32} {a_high : Nat → Int32} {a_parent : Nat → Int32} {a_pathsOf : Nat → Int32} {a_lengthOf : Nat → Int32} {a_choicesOf : Nat → Int32} {a_stack : Nat → Int32} {a_worstPath : Nat → Int32} {a_sureness : Nat → Int32} {a_mostMisses : Nat → Int32} {a_mostHits : Nat → Int32} {a_leastMisses : Nat → Int32} {a_endings : Nat → Int64} {a_runsHolding : Nat → Int32} {a_rounds : Nat → Int32} {a_path : Nat → Int32} {a_pathTop : Nat → Int32} {a_cache : Nat → Int32} {a_runMisses : Nat → Int32} {a_runHits : Nat → Int32} {a_table : Nat → Int32} {a_before : Nat → Int32} {a_behind : Nat → Int32} {post : SX → Prop} (H : post (f_setBits, f_placeCount, f_made, f_height, f_pathCount, f_greatestLength, f_worstTime, f_bestTime, f_worstCount, f_programBound, f_endingCount, f_chosen, f_time, a_kind, a_first, a_second, a_low, a_high, a_parent, a_pathsOf, a_lengthOf, a_choicesOf, a_stack, a_worstPath, a_sureness, a_mostMisses, a_mostHits, a_leastMisses, a_endings, sw_f (fun _ => 0) a_runsHolding 12, a_rounds, sw_f (fun _ => -4) a_path 20, a_pathTop, a_cache, a_runMisses, a_runHits, a_table, a_before, a_behind)) :
    ∀ d i, i + d = 20 → wX_clearAnswers_126 post f_setBits f_placeCount f_made f_height f_pathCount f_greatestLength f_worstTime f_bestTime f_worstCount f_programBound f_endingCount f_chosen f_time (d + 1) (nI i) a_kind a_first a_second a_low a_high a_parent a_pathsOf a_lengthOf a_choicesOf a_stack a_worstPath a_sureness a_mostMisses a_mostHits a_leastMisses a_endings a_runsHolding a_rounds (sw_f (fun _ => -4) a_path i) a_pathTop a_cache a_runMisses a_runHits a_table a_before a_behind := by
  intro d
  induction d with
  | zero =>
    intro i hi
    have hi : i = 20 := by omega
    subst hi
    have L := xz_148 (a_runsHolding := a_runsHolding) H 12 0 (by omega)
    rw [sw_0] at L
    exact br_t (by decide) ⟨13, L⟩
  | succ d ih =>
    intro i hi
    have c : (nI i).toNatClampNeg = i := nI_clamp (by omega)
    refine br_f (nI_ge (b := 20) (by omega) (by omega)) ⟨vp_in_nI (by omega) (by omega), um_u c (nm_r (nI_1 i) ?_)⟩
    rw [sw_u rfl]
    exact ih (i + 1) (by omega)
theorem xz_23 {f_setBits : Int32} {f_placeCount : Int32} {f_made : Int32} {f_height : Int32} {f_pathCount : Int32} {f_greatestLength : Int32} {f_worstTime : Int32} {f_bestTime : Int32} {f_worstCount : Int32} {f_programBound : Int32} {f_endingCount : Int32} {f_chosen : Int32} {f_time : Int32} {a_kind : Nat → Int32} {a_first : Nat → Int32} {a_second : Nat → Int32} {a_low : Nat → Int32} {a_high : Nat → Int32} {a_parent : Nat → Int32} {a_pathsOf : Nat → Int32} {a_lengthOf : Nat → Int32} {a_choicesOf : Nat → Int32} {a_stack : Nat → Int32} {a_worstPath : Nat → Int32} {a_sureness : Nat → Int32} {a_mostMisses : Nat → Int32} {a_mostHits : Nat → Int32} {a_leastMisses : Nat → Int32} {a_endings : Nat → Int64} {a_runsHolding : Nat → Int32} {a_rounds : Nat → Int32} {a_path : Nat → Int32} {a_pathTop : Nat → Int32} {a_cache : Nat → Int32} {a_runMisses : Nat → Int32} {a_runHits : Nat → Int32} {a_table : Nat → Int32} {a_before : Nat → Int32} {a_behind : Nat → Int32} {post : SX → Prop} {ma : Nat} (hma : ma ≤ 18) (hm : f_made = nI ma) (H : post (f_setBits, f_placeCount, f_made, f_height, f_pathCount, f_greatestLength, f_worstTime, f_bestTime, f_worstCount, f_programBound, f_endingCount, f_chosen, f_time, a_kind, a_first, a_second, a_low, a_high, a_parent, a_pathsOf, a_lengthOf, a_choicesOf, a_stack, a_worstPath, sw_f (fun j => if j < ma ∧ a_kind j = 0 then 2 else -4) a_sureness 18, sw_f (fun j => if j < ma ∧ a_kind j = 0 then 0 else -4) a_mostMisses 18, sw_f (fun j => if j < ma ∧ a_kind j = 0 then 0 else -4) a_mostHits 18, sw_f (fun j => if j < ma ∧ a_kind j = 0 then 1000 else -4) a_leastMisses 18, a_endings, sw_f (fun _ => 0) a_runsHolding 12, a_rounds, sw_f (fun _ => -4) a_path 20, a_pathTop, a_cache, a_runMisses, a_runHits, a_table, a_before, a_behind)) :
    ∀ d i, i + d = 18 → wX_clearAnswers_23 post f_setBits f_placeCount f_made f_height f_pathCount f_greatestLength f_worstTime f_bestTime f_worstCount f_programBound f_endingCount f_chosen f_time (d + 1) (nI i) a_kind a_first a_second a_low a_high a_parent a_pathsOf a_lengthOf a_choicesOf a_stack a_worstPath (sw_f (fun j => if j < ma ∧ a_kind j = 0 then 2 else -4) a_sureness i) (sw_f (fun j => if j < ma ∧ a_kind j = 0 then 0 else -4) a_mostMisses i) (sw_f (fun j => if j < ma ∧ a_kind j = 0 then 0 else -4) a_mostHits i) (sw_f (fun j => if j < ma ∧ a_kind j = 0 then 1000 else -4) a_leastMisses i) a_endings a_runsHolding a_rounds a_path a_pathTop a_cache a_runMisses a_runHits a_table a_before a_behind := by
  subst hm
  intro d
  induction d with
  | zero =>
    intro i hi
    have hi : i = 18 := by omega
    subst hi
    have L := xz_126 (a_path := a_path) H 20 0 (by omega)
    rw [sw_0] at L
    exact br_t (by decide) ⟨21, L⟩
  | succ d ih =>
    intro i hi
    have c : (nI i).toNatClampNeg = i := nI_clamp (by omega)
    have ii : vp_in (nI i) 18 := vp_in_nI (by omega) (by omega)
    have no : ¬ (i < ma ∧ a_kind i = 0) → wX_clearAnswers_51 post (wX_clearAnswers_23 post f_setBits f_placeCount (nI ma) f_height f_pathCount f_greatestLength f_worstTime f_bestTime f_worstCount f_programBound f_endingCount f_chosen f_time (d + 1)) (nI i) 0 f_setBits f_placeCount (nI ma) f_height f_pathCount f_greatestLength f_worstTime f_bestTime f_worstCount f_programBound f_endingCount f_chosen f_time a_kind a_first a_second a_low a_high a_parent a_pathsOf a_lengthOf a_choicesOf a_stack a_worstPath (sw_f (fun j => if j < ma ∧ a_kind j = 0 then 2 else -4) a_sureness i) (sw_f (fun j => if j < ma ∧ a_kind j = 0 then 0 else -4) a_mostMisses i) (sw_f (fun j => if j < ma ∧ a_kind j = 0 then 0 else -4) a_mostHits i) (sw_f (fun j => if j < ma ∧ a_kind j = 0 then 1000 else -4) a_leastMisses i) a_endings a_runsHolding a_rounds a_path a_pathTop a_cache a_runMisses a_runHits a_table a_before a_behind := by
      intro z
      refine xz_0 (by omega) ?_
      rw [sw_u (by rw [if_neg z]), sw_u (by rw [if_neg z]), sw_u (by rw [if_neg z]), sw_u (by rw [if_neg z])]
      exact ih (i + 1) (by omega)
    refine br_f (nI_ge (b := 18) (by omega) (by omega)) ?_
    by_cases y : i < ma
    · refine br_f (nI_ge y (by omega)) ⟨ii, ?_⟩
      rw [c]
      refine br_c (fun z => ?_) (fun z => no (fun w => z w.2))
      refine xz_1 (by omega) ?_
      rw [sw_u (by rw [if_pos ⟨y, z⟩]), sw_u (by rw [if_pos ⟨y, z⟩]), sw_u (by rw [if_pos ⟨y, z⟩]), sw_u (by rw [if_pos ⟨y, z⟩])]
      exact ih (i + 1) (by omega)
    · exact br_t (nI_le (by omega) (by omega)) (no (fun w => y w.1))
theorem xz_clear {f_setBits : Int32} {f_placeCount : Int32} {f_made : Int32} {f_height : Int32} {f_pathCount : Int32} {f_greatestLength : Int32} {f_worstTime : Int32} {f_bestTime : Int32} {f_worstCount : Int32} {f_programBound : Int32} {f_endingCount : Int32} {f_chosen : Int32} {f_time : Int32} {a_kind : Nat → Int32} {a_first : Nat → Int32} {a_second : Nat → Int32} {a_low : Nat → Int32} {a_high : Nat → Int32} {a_parent : Nat → Int32} {a_pathsOf : Nat → Int32} {a_lengthOf : Nat → Int32} {a_choicesOf : Nat → Int32} {a_stack : Nat → Int32} {a_worstPath : Nat → Int32} {a_sureness : Nat → Int32} {a_mostMisses : Nat → Int32} {a_mostHits : Nat → Int32} {a_leastMisses : Nat → Int32} {a_endings : Nat → Int64} {a_runsHolding : Nat → Int32} {a_rounds : Nat → Int32} {a_path : Nat → Int32} {a_pathTop : Nat → Int32} {a_cache : Nat → Int32} {a_runMisses : Nat → Int32} {a_runHits : Nat → Int32} {a_table : Nat → Int32} {a_before : Nat → Int32} {a_behind : Nat → Int32} {post : SX → Prop} {ma : Nat} (hma : ma ≤ 18) (hm : f_made = nI ma) (H : post (f_setBits, f_placeCount, f_made, f_height, f_pathCount, f_greatestLength, -1, 1000000, 0, f_programBound, 0, f_chosen, f_time, a_kind, a_first, a_second, a_low, a_high, a_parent, a_pathsOf, a_lengthOf, a_choicesOf, a_stack, a_worstPath, sw_f (fun j => if j < ma ∧ a_kind j = 0 then 2 else -4) a_sureness 18, sw_f (fun j => if j < ma ∧ a_kind j = 0 then 0 else -4) a_mostMisses 18, sw_f (fun j => if j < ma ∧ a_kind j = 0 then 0 else -4) a_mostHits 18, sw_f (fun j => if j < ma ∧ a_kind j = 0 then 1000 else -4) a_leastMisses 18, a_endings, sw_f (fun _ => 0) a_runsHolding 12, a_rounds, sw_f (fun _ => -4) a_path 20, a_pathTop, a_cache, a_runMisses, a_runHits, a_table, a_before, a_behind)) : wpX_clearAnswers post (f_setBits, f_placeCount, f_made, f_height, f_pathCount, f_greatestLength, f_worstTime, f_bestTime, f_worstCount, f_programBound, f_endingCount, f_chosen, f_time, a_kind, a_first, a_second, a_low, a_high, a_parent, a_pathsOf, a_lengthOf, a_choicesOf, a_stack, a_worstPath, a_sureness, a_mostMisses, a_mostHits, a_leastMisses, a_endings, a_runsHolding, a_rounds, a_path, a_pathTop, a_cache, a_runMisses, a_runHits, a_table, a_before, a_behind) := by
  have L := xz_23 (a_sureness := a_sureness) (a_mostMisses := a_mostMisses) (a_mostHits := a_mostHits) (a_leastMisses := a_leastMisses) hma hm H 18 0 (by omega)
  rw [sw_0, sw_0, sw_0, sw_0] at L
  exact Exists.intro 19 L
theorem yz_60 {h_sets : Int32} {h_places : Int32} {h_made : Int32} {h_depth : Int32} {h_size : Int32} {h_open : Int32} {h_time : Int32} {h_chosen : Int32} {h_kept : Int32} {h_worst : Int32} {h_best : Int32} {h_worstRuns : Int32} {h_worstChoices : Int32} {h_ends : Int32} {h_bound : Int32} {h_under : Int32} {h_back : Int32} {b_sorts : Nat → Int32} {b_lows : Nat → Int32} {b_highs : Nat → Int32} {b_firsts : Nat → Int32} {b_seconds : Nat → Int32} {b_stack : Nat → Int32} {b_pathsOf : Nat → Int32} {b_lengthOf : Nat → Int32} {b_choicesOf : Nat → Int32} {b_todo : Nat → Int32} {b_cache : Nat → Int32} {b_path : Nat → Int32} {b_tops : Nat → Int32} {b_missed : Nat → Int32} {b_struck : Nat → Int32} {b_worstPath : Nat → Int32} {b_mostMissed : Nat → Int32} {b_mostStruck : Nat → Int32} {b_leastMissed : Nat → Int32} {b_held : Nat → Int32} {b_contents : Nat → Int64} {b_ages : Nat → Int32} {b_phase : Nat → Int32} {b_node : Nat → Int32} {b_sum : Nat → Int32} {b_saved : Nat → Int32} {b_greatest : Nat → Int32} {b_met : Nat → Int32} {b_unsure : Nat → Int32} {post : SY → Prop} (H : ∃ n81 : Nat, wY_workAll_81 post n81 1 h_sets h_places h_made h_depth h_size h_open h_time h_chosen h_kept h_worst h_best h_worstRuns h_worstChoices h_ends h_bound h_under h_back b_sorts b_lows b_highs b_firsts b_seconds b_stack b_pathsOf b_lengthOf b_choicesOf b_todo b_cache b_path b_tops b_missed b_struck b_worstPath b_mostMissed b_mostStruck b_leastMissed (sw_f (fun _ => 0) b_held 12) b_contents b_ages b_phase b_node b_sum b_saved b_greatest b_met b_unsure) :
    ∀ d i, i + d = 12 → wY_workAll_60 post h_sets h_places h_made h_depth h_size h_open h_time h_chosen h_kept h_worst h_best h_worstRuns h_worstChoices h_ends h_bound h_under h_back (d + 1) (nI i) b_sorts b_lows b_highs b_firsts b_seconds b_stack b_pathsOf b_lengthOf b_choicesOf b_todo b_cache b_path b_tops b_missed b_struck b_worstPath b_mostMissed b_mostStruck b_leastMissed (sw_f (fun _ => 0) b_held i) b_contents b_ages b_phase b_node b_sum b_saved b_greatest b_met b_unsure := by
  intro d
  induction d with
  | zero =>
    intro i hi
    have hi : i = 12 := by omega
    subst hi
    exact br_t (by decide) H
  | succ d ih =>
    intro i hi
    have c : (nI i).toNatClampNeg = i := nI_clamp (by omega)
    refine br_f (nI_ge (b := 12) (by omega) (by omega)) ⟨vp_in_nI (by omega) (by omega), um_u c (nm_r (nI_1 i) ?_)⟩
    rw [sw_u rfl]
    exact ih (i + 1) (by omega)
theorem yz_23 {h_sets : Int32} {h_places : Int32} {h_made : Int32} {h_depth : Int32} {h_size : Int32} {h_open : Int32} {h_time : Int32} {h_chosen : Int32} {h_kept : Int32} {h_worst : Int32} {h_best : Int32} {h_worstRuns : Int32} {h_worstChoices : Int32} {h_ends : Int32} {h_bound : Int32} {h_under : Int32} {h_back : Int32} {b_sorts : Nat → Int32} {b_lows : Nat → Int32} {b_highs : Nat → Int32} {b_firsts : Nat → Int32} {b_seconds : Nat → Int32} {b_stack : Nat → Int32} {b_pathsOf : Nat → Int32} {b_lengthOf : Nat → Int32} {b_choicesOf : Nat → Int32} {b_todo : Nat → Int32} {b_cache : Nat → Int32} {b_path : Nat → Int32} {b_tops : Nat → Int32} {b_missed : Nat → Int32} {b_struck : Nat → Int32} {b_worstPath : Nat → Int32} {b_mostMissed : Nat → Int32} {b_mostStruck : Nat → Int32} {b_leastMissed : Nat → Int32} {b_held : Nat → Int32} {b_contents : Nat → Int64} {b_ages : Nat → Int32} {b_phase : Nat → Int32} {b_node : Nat → Int32} {b_sum : Nat → Int32} {b_saved : Nat → Int32} {b_greatest : Nat → Int32} {b_met : Nat → Int32} {b_unsure : Nat → Int32} {post : SY → Prop} (H : ∃ n81 : Nat, wY_workAll_81 post n81 1 h_sets h_places h_made h_depth h_size h_open h_time h_chosen h_kept h_worst h_best h_worstRuns h_worstChoices h_ends h_bound h_under h_back b_sorts b_lows b_highs b_firsts b_seconds b_stack b_pathsOf b_lengthOf b_choicesOf b_todo b_cache b_path b_tops b_missed b_struck b_worstPath (sw_f (fun _ => 0) b_mostMissed 18) (sw_f (fun _ => 0) b_mostStruck 18) (sw_f (fun _ => 1000) b_leastMissed 18) (sw_f (fun _ => 0) b_held 12) b_contents b_ages b_phase b_node b_sum b_saved b_greatest b_met b_unsure) :
    ∀ d i, i + d = 18 → wY_workAll_23 post h_sets h_places h_made h_depth h_size h_open h_time h_chosen h_kept h_worst h_best h_worstRuns h_worstChoices h_ends h_bound h_under h_back (d + 1) (nI i) b_sorts b_lows b_highs b_firsts b_seconds b_stack b_pathsOf b_lengthOf b_choicesOf b_todo b_cache b_path b_tops b_missed b_struck b_worstPath (sw_f (fun _ => 0) b_mostMissed i) (sw_f (fun _ => 0) b_mostStruck i) (sw_f (fun _ => 1000) b_leastMissed i) b_held b_contents b_ages b_phase b_node b_sum b_saved b_greatest b_met b_unsure := by
  intro d
  induction d with
  | zero =>
    intro i hi
    have hi : i = 18 := by omega
    subst hi
    have L := yz_60 (b_held := b_held) H 12 0 (by omega)
    rw [sw_0] at L
    exact br_t (by decide) ⟨13, L⟩
  | succ d ih =>
    intro i hi
    have c : (nI i).toNatClampNeg = i := nI_clamp (by omega)
    have ii : vp_in (nI i) 18 := vp_in_nI (by omega) (by omega)
    refine br_f (nI_ge (b := 18) (by omega) (by omega)) ⟨ii, um_u c ⟨ii, um_u c ⟨ii, um_u c (nm_r (nI_1 i) ?_)⟩⟩⟩
    rw [sw_u rfl, sw_u rfl, sw_u rfl]
    exact ih (i + 1) (by omega)
theorem yz_all {h_sets : Int32} {h_places : Int32} {h_made : Int32} {h_depth : Int32} {h_size : Int32} {h_open : Int32} {h_time : Int32} {h_chosen : Int32} {h_kept : Int32} {h_worst : Int32} {h_best : Int32} {h_worstRuns : Int32} {h_worstChoices : Int32} {h_ends : Int32} {h_bound : Int32} {h_under : Int32} {h_back : Int32} {b_sorts : Nat → Int32} {b_lows : Nat → Int32} {b_highs : Nat → Int32} {b_firsts : Nat → Int32} {b_seconds : Nat → Int32} {b_stack : Nat → Int32} {b_pathsOf : Nat → Int32} {b_lengthOf : Nat → Int32} {b_choicesOf : Nat → Int32} {b_todo : Nat → Int32} {b_cache : Nat → Int32} {b_path : Nat → Int32} {b_tops : Nat → Int32} {b_missed : Nat → Int32} {b_struck : Nat → Int32} {b_worstPath : Nat → Int32} {b_mostMissed : Nat → Int32} {b_mostStruck : Nat → Int32} {b_leastMissed : Nat → Int32} {b_held : Nat → Int32} {b_contents : Nat → Int64} {b_ages : Nat → Int32} {b_phase : Nat → Int32} {b_node : Nat → Int32} {b_sum : Nat → Int32} {b_saved : Nat → Int32} {b_greatest : Nat → Int32} {b_met : Nat → Int32} {b_unsure : Nat → Int32} {post : SY → Prop} {F : Nat} (H : wY_workAll_81 post F 1 h_sets h_places h_made h_depth h_size h_open h_time h_chosen 0 (-1) 1000000 h_worstRuns h_worstChoices 0 h_bound h_under h_back b_sorts b_lows b_highs b_firsts b_seconds b_stack b_pathsOf b_lengthOf b_choicesOf b_todo b_cache b_path b_tops b_missed b_struck b_worstPath (sw_f (fun _ => 0) b_mostMissed 18) (sw_f (fun _ => 0) b_mostStruck 18) (sw_f (fun _ => 1000) b_leastMissed 18) (sw_f (fun _ => 0) b_held 12) b_contents b_ages b_phase b_node b_sum b_saved b_greatest b_met b_unsure) : wpY_workAll post (h_sets, h_places, h_made, h_depth, h_size, h_open, h_time, h_chosen, h_kept, h_worst, h_best, h_worstRuns, h_worstChoices, h_ends, h_bound, h_under, h_back, b_sorts, b_lows, b_highs, b_firsts, b_seconds, b_stack, b_pathsOf, b_lengthOf, b_choicesOf, b_todo, b_cache, b_path, b_tops, b_missed, b_struck, b_worstPath, b_mostMissed, b_mostStruck, b_leastMissed, b_held, b_contents, b_ages, b_phase, b_node, b_sum, b_saved, b_greatest, b_met, b_unsure) := by
  have L := yz_23 (b_mostMissed := b_mostMissed) (b_mostStruck := b_mostStruck) (b_leastMissed := b_leastMissed) ⟨F, H⟩ 18 0 (by omega)
  rw [sw_0, sw_0, sw_0] at L
  exact Exists.intro 19 L
set_option maxHeartbeats 4000000 in
theorem ad_all {g : Nat → Nat → Nat} {root w s : Nat} {f_setBits : Int32} {f_placeCount : Int32} {f_made : Int32} {f_height : Int32} {f_pathCount : Int32} {f_greatestLength : Int32} {f_worstTime : Int32} {f_bestTime : Int32} {f_worstCount : Int32} {f_programBound : Int32} {f_endingCount : Int32} {f_chosen : Int32} {f_time : Int32} {a_kind : Nat → Int32} {a_first : Nat → Int32} {a_second : Nat → Int32} {a_low : Nat → Int32} {a_high : Nat → Int32} {a_parent : Nat → Int32} {a_pathsOf : Nat → Int32} {a_lengthOf : Nat → Int32} {a_choicesOf : Nat → Int32} {a_stack : Nat → Int32} {a_worstPath : Nat → Int32} {a_sureness : Nat → Int32} {a_mostMisses : Nat → Int32} {a_mostHits : Nat → Int32} {a_leastMisses : Nat → Int32} {a_endings : Nat → Int64} {a_runsHolding : Nat → Int32} {a_rounds : Nat → Int32} {a_path : Nat → Int32} {a_pathTop : Nat → Int32} {a_cache : Nat → Int32} {a_runMisses : Nat → Int32} {a_runHits : Nat → Int32} {a_table : Nat → Int32} {a_before : Nat → Int32} {a_behind : Nat → Int32} {h_sets : Int32} {h_places : Int32} {h_made : Int32} {h_depth : Int32} {h_size : Int32} {h_open : Int32} {h_time : Int32} {h_chosen : Int32} {h_kept : Int32} {h_worst : Int32} {h_best : Int32} {h_worstRuns : Int32} {h_worstChoices : Int32} {h_ends : Int32} {h_bound : Int32} {h_under : Int32} {h_back : Int32} {b_sorts : Nat → Int32} {b_lows : Nat → Int32} {b_highs : Nat → Int32} {b_firsts : Nat → Int32} {b_seconds : Nat → Int32} {b_stack : Nat → Int32} {b_pathsOf : Nat → Int32} {b_lengthOf : Nat → Int32} {b_choicesOf : Nat → Int32} {b_todo : Nat → Int32} {b_cache : Nat → Int32} {b_path : Nat → Int32} {b_tops : Nat → Int32} {b_missed : Nat → Int32} {b_struck : Nat → Int32} {b_worstPath : Nat → Int32} {b_mostMissed : Nat → Int32} {b_mostStruck : Nat → Int32} {b_leastMissed : Nat → Int32} {b_held : Nat → Int32} {b_contents : Nat → Int64} {b_ages : Nat → Int32} {b_phase : Nat → Int32} {b_node : Nat → Int32} {b_sum : Nat → Int32} {b_saved : Nat → Int32} {b_greatest : Nat → Int32} {b_met : Nat → Int32} {b_unsure : Nat → Int32}
    (T : pg_t g (root + 1)) (hr : root < 18) (hw0 : 0 < w) (hw : w ≤ 4) (hs0 : 0 < s) (hs : s ≤ 4) (hb : ∀ x y, x < 12 → y < 12 → ((nI x &&& f_setBits) = (nI y &&& f_setBits) ↔ x % s = y % s))
    (hpc : f_placeCount = nI w) (hsets : h_sets = nI s) (hpl : h_places = nI w) (hsz : h_size = nI (root + 1)) (hmd : f_made = nI (root + 1)) (hL : g 6 root ≤ 120) (hC : g 7 root ≤ 20) (hP : g 5 root ≤ 150)
    (XT : ∀ n, n ≤ root → xt_n g a_kind a_first a_second a_low a_high a_parent n) (YT : ∀ n, n ≤ root → yt_n g 0 b_sorts b_lows b_highs b_firsts b_seconds n) :
    ∃ (en bd : Nat) (x1 x2 x3 x4 x5 x6 y1 y2 y3 y4 y5 y6 y7 y8 y9 : Int32) (p1 p2 p3 p4 p5 p6 p7 p8 p9 p10 p11 q1 q2 q3 q4 q5 q6 q7 q8 q9 q10 q11 tb bf be sn ag nd ph sm sv gr me us : Nat → Int32) (l1 l2 : Nat → Int64),
      nr_R g (root + 1) w s en x3 x4 x5 x6 p7 p8 p9 p10 l1 p11 y5 y6 y7 y8 y9 q7 q8 q9 q10 l2 q11 ∧ (∃ z, z ≤ 200000 ∧ y5 = nI z) ∧ nt_A g (root + 1) sn (fun n => if me n = 0 then 0 else if us n = 0 then 1 else 0) ∧
      (∀ post : SX → Prop, post (f_setBits, f_placeCount, f_made, f_height, a_pathsOf root, a_lengthOf root, x3, x4, x5, nI bd, x6, x1, x2, a_kind, a_first, a_second, a_low, a_high, a_parent, a_pathsOf, a_lengthOf, a_choicesOf, a_stack, p7, sn, p8, p9, p10, l1, p11, p1, p2, p3, p4, p5, p6, tb, bf, be) → wpX_adopt post (f_setBits, f_placeCount, f_made, f_height, f_pathCount, f_greatestLength, f_worstTime, f_bestTime, f_worstCount, f_programBound, f_endingCount, f_chosen, f_time, a_kind, a_first, a_second, a_low, a_high, a_parent, a_pathsOf, a_lengthOf, a_choicesOf, a_stack, a_worstPath, a_sureness, a_mostMisses, a_mostHits, a_leastMisses, a_endings, a_runsHolding, a_rounds, a_path, a_pathTop, a_cache, a_runMisses, a_runHits, a_table, a_before, a_behind) (nI root)) ∧
      (∀ post : SY → Prop, post (h_sets, h_places, h_made, h_depth, h_size, y1, y2, y3, y4, y5, y6, y7, y8, y9, nI bd, 0, nI bd, b_sorts, b_lows, b_highs, b_firsts, b_seconds, b_stack, b_pathsOf, b_lengthOf, b_choicesOf, q1, q4, q2, q3, q5, q6, q7, q8, q9, q10, q11, l2, ag, ph, nd, sm, sv, gr, me, us) → wpY_workAll post (h_sets, h_places, h_made, h_depth, h_size, h_open, h_time, h_chosen, h_kept, h_worst, h_best, h_worstRuns, h_worstChoices, h_ends, h_bound, h_under, h_back, b_sorts, b_lows, b_highs, b_firsts, b_seconds, b_stack, b_pathsOf, b_lengthOf, b_choicesOf, b_todo, b_cache, b_path, b_tops, b_missed, b_struck, b_worstPath, b_mostMissed, b_mostStruck, b_leastMissed, b_held, b_contents, b_ages, b_phase, b_node, b_sum, b_saved, b_greatest, b_met, b_unsure)) := by
  have hr1 : vp_in (nI root) 18 := vp_in_nI hr (by omega)
  have hrc : (nI root).toNatClampNeg = root := nI_clamp (by omega)
  have hka : ∀ n, n < root + 1 → (a_kind n = 0 ↔ g 0 n = 0) := by
    intro n hn
    have := pg_kd (T n hn)
    rw [(XT n (by omega)).1]
    exact nI_eq (b := 0) (by omega) (by omega)
  have hcond : ∀ n, (n < root + 1 ∧ a_kind n = 0) ↔ (n < root + 1 ∧ g 0 n = 0) := fun n => ⟨fun h => ⟨h.1, (hka n h.1).mp h.2⟩, fun h => ⟨h.1, (hka n h.1).mpr h.2⟩⟩
  obtain ⟨bd, rd, tb, bf, be, sn, ag, nd, ph, sm, sv, gr, me, us, t1, t2, t3⟩ := tw_all (f_setBits := f_setBits) (f_placeCount := f_placeCount) (f_made := f_made) (f_height := f_height) (f_pathCount := a_pathsOf root) (f_greatestLength := a_lengthOf root) (f_worstTime := -1) (f_bestTime := 1000000) (f_worstCount := 0) (f_programBound := f_programBound) (f_endingCount := 0) (f_chosen := f_chosen) (f_time := f_time) (a_kind := a_kind) (a_first := a_first) (a_second := a_second) (a_low := a_low) (a_high := a_high) (a_parent := a_parent) (a_pathsOf := a_pathsOf) (a_lengthOf := a_lengthOf) (a_choicesOf := a_choicesOf) (a_stack := a_stack) (a_worstPath := a_worstPath) (a_sureness := sw_f (fun j => if j < root + 1 ∧ a_kind j = 0 then 2 else -4) a_sureness 18) (a_mostMisses := sw_f (fun j => if j < root + 1 ∧ a_kind j = 0 then 0 else -4) a_mostMisses 18) (a_mostHits := sw_f (fun j => if j < root + 1 ∧ a_kind j = 0 then 0 else -4) a_mostHits 18) (a_leastMisses := sw_f (fun j => if j < root + 1 ∧ a_kind j = 0 then 1000 else -4) a_leastMisses 18) (a_endings := a_endings) (a_runsHolding := sw_f (fun _ => 0) a_runsHolding 12) (a_rounds := a_rounds) (a_path := sw_f (fun _ => -4) a_path 20) (a_pathTop := a_pathTop) (a_cache := a_cache) (a_runMisses := a_runMisses) (a_runHits := a_runHits) (a_table := a_table) (a_before := a_before) (a_behind := a_behind) (h_sets := h_sets) (h_places := h_places) (h_made := h_made) (h_depth := h_depth) (h_size := h_size) (h_bound := h_bound) (h_under := h_under) (h_back := h_back) (b_sorts := b_sorts) (b_lows := b_lows) (b_highs := b_highs) (b_firsts := b_firsts) (b_seconds := b_seconds) (b_stack := b_stack) (b_pathsOf := b_pathsOf) (b_lengthOf := b_lengthOf) (b_choicesOf := b_choicesOf) (b_ages := b_ages) (b_phase := b_phase) (b_node := b_node) (b_sum := b_sum) (b_saved := b_saved) (b_greatest := b_greatest) (b_met := b_met) (b_unsure := b_unsure) T hr hw0 hw hs0 hs hb hpc hsets hpl hsz hL XT YT (fun n hn => by
      rw [sw_lt hn]
      exact ⟨fun h => by rw [if_pos ((hcond n).mpr h)], fun h => by rw [if_neg (fun z => h ((hcond n).mp z))]⟩)
  have NR : nr_R g (root + 1) w s 0 (-1) 1000000 0 0 a_worstPath (sw_f (fun j => if j < root + 1 ∧ a_kind j = 0 then 0 else -4) a_mostMisses 18) (sw_f (fun j => if j < root + 1 ∧ a_kind j = 0 then 0 else -4) a_mostHits 18) (sw_f (fun j => if j < root + 1 ∧ a_kind j = 0 then 1000 else -4) a_leastMisses 18) a_endings (sw_f (fun _ => 0) a_runsHolding 12) (-1) 1000000 h_worstRuns h_worstChoices 0 b_worstPath (sw_f (fun _ => 0) b_mostMissed 18) (sw_f (fun _ => 0) b_mostStruck 18) (sw_f (fun _ => 1000) b_leastMissed 18) b_contents (sw_f (fun _ => 0) b_held 12) := by
    refine ⟨rfl, rfl, Or.inl rfl, Or.inl rfl, fun n hn => ?_, fun n hn => ?_, fun n hn => ?_, rfl, rfl, fun i hi => by omega, fun m hm => by rw [sw_lt hm, sw_lt hm]⟩
    · rw [sw_lt hn, sw_lt hn]
      exact ⟨fun h => by rw [if_pos ((hcond n).mpr h)], fun h => by rw [if_neg (fun z => h ((hcond n).mp z))]⟩
    · rw [sw_lt hn, sw_lt hn]
      exact ⟨fun h => by rw [if_pos ((hcond n).mpr h)], fun h => by rw [if_neg (fun z => h ((hcond n).mp z))]⟩
    · rw [sw_lt hn, sw_lt hn]
      exact ⟨fun h => by rw [if_pos ((hcond n).mpr h)], fun h => by rw [if_neg (fun z => h ((hcond n).mp z))]⟩
  obtain ⟨en', x1, x2, x3, x4, x5, x6, y1, y2, y3, y4, y5, y6, y7, y8, y9, p1, p2, p3, p4, p5, p6, p7, p8, p9, p10, p11, q1, q2, q3, q4, q5, q6, q7, q8, q9, q10, q11, l1, l2, F1, F2, K1, K2, K3, K4⟩ := rs_all (f_setBits := f_setBits) (f_placeCount := f_placeCount) (f_made := f_made) (f_height := f_height) (f_pathCount := a_pathsOf root) (f_greatestLength := a_lengthOf root) (f_programBound := nI bd) (a_kind := a_kind) (a_first := a_first) (a_second := a_second) (a_low := a_low) (a_high := a_high) (a_parent := a_parent) (a_pathsOf := a_pathsOf) (a_lengthOf := a_lengthOf) (a_choicesOf := a_choicesOf) (a_stack := a_stack) (a_sureness := sn) (a_table := tb) (a_before := bf) (a_behind := be) (h_sets := h_sets) (h_places := h_places) (h_made := h_made) (h_depth := h_depth) (h_size := h_size) (h_bound := h_bound) (h_under := h_under) (h_back := h_back) (b_sorts := b_sorts) (b_lows := b_lows) (b_highs := b_highs) (b_firsts := b_firsts) (b_seconds := b_seconds) (b_stack := b_stack) (b_pathsOf := b_pathsOf) (b_lengthOf := b_lengthOf) (b_choicesOf := b_choicesOf) (b_ages := b_ages) (b_phase := b_phase) (b_node := b_node) (b_sum := b_sum) (b_saved := b_saved) (b_greatest := b_greatest) (b_met := b_met) (b_unsure := b_unsure)
    T hr hw0 hw hs0 hs hb hpc hsets hpl hsz hmd hL hC hP XT YT 150 0 0 0 0 f_chosen f_time (-1) 1000000 0 0 h_open h_time h_chosen 0 (-1) 1000000 h_worstRuns h_worstChoices 0
    rd (sw_f (fun _ => -4) a_path 20) a_pathTop a_cache a_runMisses a_runHits a_worstPath (sw_f (fun j => if j < root + 1 ∧ a_kind j = 0 then 0 else -4) a_mostMisses 18) (sw_f (fun j => if j < root + 1 ∧ a_kind j = 0 then 0 else -4) a_mostHits 18) (sw_f (fun j => if j < root + 1 ∧ a_kind j = 0 then 1000 else -4) a_leastMisses 18) (sw_f (fun _ => 0) a_runsHolding 12) b_todo b_path b_tops b_cache b_missed b_struck b_worstPath (sw_f (fun _ => 0) b_mostMissed 18) (sw_f (fun _ => 0) b_mostStruck 18) (sw_f (fun _ => 1000) b_leastMissed 18) (sw_f (fun _ => 0) b_held 12) a_endings b_contents
    (by omega) (by omega) (by omega) (by omega) rfl (lm_pre0 _ _ _) (fun k hk => ⟨fun z => by omega, fun _ => by rw [sw_lt hk]⟩) NR
  refine ⟨en', bd, x1, x2, x3, x4, x5, x6, y1, y2, y3, y4, y5, y6, y7, y8, y9, p1, p2, p3, p4, p5, p6, p7, p8, p9, p10, p11, q1, q2, q3, q4, q5, q6, q7, q8, q9, q10, q11, tb, bf, be, sn, ag, nd, ph, sm, sv, gr, me, us, l1, l2, K1, K2, t1, fun post H => ?_, fun post H => ?_⟩
  · refine xz_clear (f_worstTime := f_worstTime) (f_bestTime := f_bestTime) (f_worstCount := f_worstCount) (f_endingCount := f_endingCount) (ma := root + 1) (by omega) hmd ⟨hr1, nm_r (congrArg a_pathsOf hrc) ⟨hr1, nm_r (congrArg a_lengthOf hrc) ?_⟩⟩
    exact t2 _ ⟨F1, K3 post H⟩
  · refine yz_all (h_kept := h_kept) (h_worst := h_worst) (h_best := h_best) (h_ends := h_ends) (F := F2) (K4 post ?_)
    exact t3 _ _ _ _ _ _ _ _ _ _ _ _ _ _ _ _ _ _ _ _ _ _ H
end
section
/-! X: making statements -/
theorem xm_nat {x : Nat} (hx : x < 2 ^ 31) : ix_n (nI x) 1000 = nI (min x 1000) := by
  rw [show (1000 : Int32) = nI 1000 from rfl]
  unfold ix_n
  by_cases h : 1000 ≤ x
  · rw [if_pos (nI_le h hx), Nat.min_eq_right h]
  · rw [if_neg (nI_ge (by omega) (by omega)), Nat.min_eq_left (by omega)]
theorem xm_nat2 {x : Nat} (hx : x < 2 ^ 31) : ix_n 1000 (nI x) = nI (min x 1000) := by
  rw [ix_c]; exact xm_nat hx
theorem xp_put {f_setBits : Int32} {f_placeCount : Int32} {f_pathCount : Int32} {f_greatestLength : Int32} {f_worstTime : Int32} {f_bestTime : Int32} {f_worstCount : Int32} {f_programBound : Int32} {f_endingCount : Int32} {f_chosen : Int32} {f_time : Int32} {a_kind : Nat → Int32} {a_first : Nat → Int32} {a_second : Nat → Int32} {a_low : Nat → Int32} {a_high : Nat → Int32} {a_parent : Nat → Int32} {a_pathsOf : Nat → Int32} {a_lengthOf : Nat → Int32} {a_choicesOf : Nat → Int32} {a_stack : Nat → Int32} {a_worstPath : Nat → Int32} {a_sureness : Nat → Int32} {a_mostMisses : Nat → Int32} {a_mostHits : Nat → Int32} {a_leastMisses : Nat → Int32} {a_endings : Nat → Int64} {a_runsHolding : Nat → Int32} {a_rounds : Nat → Int32} {a_path : Nat → Int32} {a_pathTop : Nat → Int32} {a_cache : Nat → Int32} {a_runMisses : Nat → Int32} {a_runHits : Nat → Int32} {a_table : Nat → Int32} {a_before : Nat → Int32} {a_behind : Nat → Int32} {post : Int32 → SX → Prop} {m h : Nat} {p0 p1 p2 : Int32} (hm : m < 18) (hh : h < 18)
    (H : post (nI m) (f_setBits, f_placeCount, nI (m + 1), nI (h + 1), f_pathCount, f_greatestLength, f_worstTime, f_bestTime, f_worstCount, f_programBound, f_endingCount, f_chosen, f_time, upd a_kind m p0, upd a_first m p1, upd a_second m p2, upd a_low m 0, upd a_high m 0, a_parent, a_pathsOf, a_lengthOf, a_choicesOf, upd a_stack h (nI m), a_worstPath, a_sureness, a_mostMisses, a_mostHits, a_leastMisses, a_endings, a_runsHolding, a_rounds, a_path, a_pathTop, a_cache, a_runMisses, a_runHits, a_table, a_before, a_behind)) : wpX_put post (f_setBits, f_placeCount, nI m, nI h, f_pathCount, f_greatestLength, f_worstTime, f_bestTime, f_worstCount, f_programBound, f_endingCount, f_chosen, f_time, a_kind, a_first, a_second, a_low, a_high, a_parent, a_pathsOf, a_lengthOf, a_choicesOf, a_stack, a_worstPath, a_sureness, a_mostMisses, a_mostHits, a_leastMisses, a_endings, a_runsHolding, a_rounds, a_path, a_pathTop, a_cache, a_runMisses, a_runHits, a_table, a_before, a_behind) p0 p1 p2 := by
  have c1 : (nI m).toNatClampNeg = m := nI_clamp (by omega)
  have c2 : (nI h).toNatClampNeg = h := nI_clamp (by omega)
  have i1 : vp_in (nI m) 18 := vp_in_nI hm (by omega)
  have i2 : vp_in (nI h) 18 := vp_in_nI hh (by omega)
  exact And.intro i1 (um_u c1 ⟨i1, um_u c1 ⟨i1, um_u c1 ⟨i1, um_u c1 ⟨i1, um_u c1 ⟨i2, um_u c2 (nm_r (nI_1 h) (nm_r (nI_1 m) H))⟩⟩⟩⟩⟩)
theorem xm_meas {f_setBits : Int32} {f_placeCount : Int32} {f_made : Int32} {f_height : Int32} {f_pathCount : Int32} {f_greatestLength : Int32} {f_worstTime : Int32} {f_bestTime : Int32} {f_worstCount : Int32} {f_programBound : Int32} {f_endingCount : Int32} {f_chosen : Int32} {f_time : Int32} {a_kind : Nat → Int32} {a_first : Nat → Int32} {a_second : Nat → Int32} {a_low : Nat → Int32} {a_high : Nat → Int32} {a_parent : Nat → Int32} {a_pathsOf : Nat → Int32} {a_lengthOf : Nat → Int32} {a_choicesOf : Nat → Int32} {a_stack : Nat → Int32} {a_worstPath : Nat → Int32} {a_sureness : Nat → Int32} {a_mostMisses : Nat → Int32} {a_mostHits : Nat → Int32} {a_leastMisses : Nat → Int32} {a_endings : Nat → Int64} {a_runsHolding : Nat → Int32} {a_rounds : Nat → Int32} {a_path : Nat → Int32} {a_pathTop : Nat → Int32} {a_cache : Nat → Int32} {a_runMisses : Nat → Int32} {a_runHits : Nat → Int32} {a_table : Nat → Int32} {a_before : Nat → Int32} {a_behind : Nat → Int32} {post : SX → Prop} {n : Nat} {p1 p2 p3 : Int32} (hn : n < 18) (H : post (f_setBits, f_placeCount, f_made, f_height, f_pathCount, f_greatestLength, f_worstTime, f_bestTime, f_worstCount, f_programBound, f_endingCount, f_chosen, f_time, a_kind, a_first, a_second, a_low, a_high, a_parent, upd a_pathsOf n (ix_n p1 1000), upd a_lengthOf n (ix_n p2 1000), upd a_choicesOf n (ix_n p3 1000), a_stack, a_worstPath, a_sureness, a_mostMisses, a_mostHits, a_leastMisses, a_endings, a_runsHolding, a_rounds, a_path, a_pathTop, a_cache, a_runMisses, a_runHits, a_table, a_before, a_behind)) : wpX_measure post (f_setBits, f_placeCount, f_made, f_height, f_pathCount, f_greatestLength, f_worstTime, f_bestTime, f_worstCount, f_programBound, f_endingCount, f_chosen, f_time, a_kind, a_first, a_second, a_low, a_high, a_parent, a_pathsOf, a_lengthOf, a_choicesOf, a_stack, a_worstPath, a_sureness, a_mostMisses, a_mostHits, a_leastMisses, a_endings, a_runsHolding, a_rounds, a_path, a_pathTop, a_cache, a_runMisses, a_runHits, a_table, a_before, a_behind) (nI n) p1 p2 p3 := by
  have c : (nI n).toNatClampNeg = n := nI_clamp (by omega)
  have i : vp_in (nI n) 18 := vp_in_nI hn (by omega)
  unfold wpX_measure
  refine ix_L (And.intro i (um_u c ?_))
  refine ix_L (And.intro i (um_u c ?_))
  exact ix_L (And.intro i (um_u c H))
theorem xp_leaf {f_setBits : Int32} {f_placeCount : Int32} {f_pathCount : Int32} {f_greatestLength : Int32} {f_worstTime : Int32} {f_bestTime : Int32} {f_worstCount : Int32} {f_programBound : Int32} {f_endingCount : Int32} {f_chosen : Int32} {f_time : Int32} {a_kind : Nat → Int32} {a_first : Nat → Int32} {a_second : Nat → Int32} {a_low : Nat → Int32} {a_high : Nat → Int32} {a_parent : Nat → Int32} {a_pathsOf : Nat → Int32} {a_lengthOf : Nat → Int32} {a_choicesOf : Nat → Int32} {a_stack : Nat → Int32} {a_worstPath : Nat → Int32} {a_sureness : Nat → Int32} {a_mostMisses : Nat → Int32} {a_mostHits : Nat → Int32} {a_leastMisses : Nat → Int32} {a_endings : Nat → Int64} {a_runsHolding : Nat → Int32} {a_rounds : Nat → Int32} {a_path : Nat → Int32} {a_pathTop : Nat → Int32} {a_cache : Nat → Int32} {a_runMisses : Nat → Int32} {a_runHits : Nat → Int32} {a_table : Nat → Int32} {a_before : Nat → Int32} {a_behind : Nat → Int32} {post : Int32 → SX → Prop} {m h : Nat} {p0 p1 : Int32} (hm : m < 18) (hh : h < 18)
    (H : post (nI m) (f_setBits, f_placeCount, nI (m + 1), nI (h + 1), f_pathCount, f_greatestLength, f_worstTime, f_bestTime, f_worstCount, f_programBound, f_endingCount, f_chosen, f_time, upd a_kind m p0, upd a_first m p1, upd a_second m 0, upd a_low m 0, upd a_high m 0, a_parent, upd a_pathsOf m (nI 1), upd a_lengthOf m (nI 1), upd a_choicesOf m (nI 0), upd a_stack h (nI m), a_worstPath, a_sureness, a_mostMisses, a_mostHits, a_leastMisses, a_endings, a_runsHolding, a_rounds, a_path, a_pathTop, a_cache, a_runMisses, a_runHits, a_table, a_before, a_behind)) : wpX_putLeaf post (f_setBits, f_placeCount, nI m, nI h, f_pathCount, f_greatestLength, f_worstTime, f_bestTime, f_worstCount, f_programBound, f_endingCount, f_chosen, f_time, a_kind, a_first, a_second, a_low, a_high, a_parent, a_pathsOf, a_lengthOf, a_choicesOf, a_stack, a_worstPath, a_sureness, a_mostMisses, a_mostHits, a_leastMisses, a_endings, a_runsHolding, a_rounds, a_path, a_pathTop, a_cache, a_runMisses, a_runHits, a_table, a_before, a_behind) p0 p1 := by
  unfold wpX_putLeaf
  refine xp_put hm hh ?_
  exact xm_meas hm H
theorem xp_seq {f_setBits : Int32} {f_placeCount : Int32} {f_pathCount : Int32} {f_greatestLength : Int32} {f_worstTime : Int32} {f_bestTime : Int32} {f_worstCount : Int32} {f_programBound : Int32} {f_endingCount : Int32} {f_chosen : Int32} {f_time : Int32} {a_kind : Nat → Int32} {a_first : Nat → Int32} {a_second : Nat → Int32} {a_low : Nat → Int32} {a_high : Nat → Int32} {a_parent : Nat → Int32} {a_pathsOf : Nat → Int32} {a_lengthOf : Nat → Int32} {a_choicesOf : Nat → Int32} {a_stack : Nat → Int32} {a_worstPath : Nat → Int32} {a_sureness : Nat → Int32} {a_mostMisses : Nat → Int32} {a_mostHits : Nat → Int32} {a_leastMisses : Nat → Int32} {a_endings : Nat → Int64} {a_runsHolding : Nat → Int32} {a_rounds : Nat → Int32} {a_path : Nat → Int32} {a_pathTop : Nat → Int32} {a_cache : Nat → Int32} {a_runMisses : Nat → Int32} {a_runHits : Nat → Int32} {a_table : Nat → Int32} {a_before : Nat → Int32} {a_behind : Nat → Int32} {post : Int32 → SX → Prop} {m h a b : Nat} (hm : m < 18) (hh : h < 18) (ha : a < 18) (hb : b < 18)
    (H : post (nI m) (f_setBits, f_placeCount, nI (m + 1), nI (h + 1), f_pathCount, f_greatestLength, f_worstTime, f_bestTime, f_worstCount, f_programBound, f_endingCount, f_chosen, f_time, upd a_kind m 2, upd a_first m (nI a), upd a_second m (nI b), upd a_low m 0, upd a_high m 0, upd (upd a_parent a (nI m)) b (nI m), upd a_pathsOf m (ix_n (a_pathsOf a * a_pathsOf b) 1000), upd a_lengthOf m (ix_n (a_lengthOf a + a_lengthOf b) 1000), upd a_choicesOf m (ix_n (a_choicesOf a + a_choicesOf b) 1000), upd a_stack h (nI m), a_worstPath, a_sureness, a_mostMisses, a_mostHits, a_leastMisses, a_endings, a_runsHolding, a_rounds, a_path, a_pathTop, a_cache, a_runMisses, a_runHits, a_table, a_before, a_behind)) : wpX_putSeq post (f_setBits, f_placeCount, nI m, nI h, f_pathCount, f_greatestLength, f_worstTime, f_bestTime, f_worstCount, f_programBound, f_endingCount, f_chosen, f_time, a_kind, a_first, a_second, a_low, a_high, a_parent, a_pathsOf, a_lengthOf, a_choicesOf, a_stack, a_worstPath, a_sureness, a_mostMisses, a_mostHits, a_leastMisses, a_endings, a_runsHolding, a_rounds, a_path, a_pathTop, a_cache, a_runMisses, a_runHits, a_table, a_before, a_behind) (nI a) (nI b) := by
  have ca : (nI a).toNatClampNeg = a := nI_clamp (by omega)
  have cb : (nI b).toNatClampNeg = b := nI_clamp (by omega)
  have ia : vp_in (nI a) 18 := vp_in_nI ha (by omega)
  have ib : vp_in (nI b) 18 := vp_in_nI hb (by omega)
  unfold wpX_putSeq
  refine xp_put hm hh ?_
  refine And.intro ia (um_u ca ⟨ib, um_u cb ⟨ia, ib, ia, ib, ia, ib, ?_⟩⟩)
  rw [ca, cb]
  exact xm_meas hm H
theorem xp_if {f_setBits : Int32} {f_placeCount : Int32} {f_pathCount : Int32} {f_greatestLength : Int32} {f_worstTime : Int32} {f_bestTime : Int32} {f_worstCount : Int32} {f_programBound : Int32} {f_endingCount : Int32} {f_chosen : Int32} {f_time : Int32} {a_kind : Nat → Int32} {a_first : Nat → Int32} {a_second : Nat → Int32} {a_low : Nat → Int32} {a_high : Nat → Int32} {a_parent : Nat → Int32} {a_pathsOf : Nat → Int32} {a_lengthOf : Nat → Int32} {a_choicesOf : Nat → Int32} {a_stack : Nat → Int32} {a_worstPath : Nat → Int32} {a_sureness : Nat → Int32} {a_mostMisses : Nat → Int32} {a_mostHits : Nat → Int32} {a_leastMisses : Nat → Int32} {a_endings : Nat → Int64} {a_runsHolding : Nat → Int32} {a_rounds : Nat → Int32} {a_path : Nat → Int32} {a_pathTop : Nat → Int32} {a_cache : Nat → Int32} {a_runMisses : Nat → Int32} {a_runHits : Nat → Int32} {a_table : Nat → Int32} {a_before : Nat → Int32} {a_behind : Nat → Int32} {post : Int32 → SX → Prop} {m h a b : Nat} (hm : m < 18) (hh : h < 18) (ha : a < 18) (hb : b < 18)
    (H : post (nI m) (f_setBits, f_placeCount, nI (m + 1), nI (h + 1), f_pathCount, f_greatestLength, f_worstTime, f_bestTime, f_worstCount, f_programBound, f_endingCount, f_chosen, f_time, upd a_kind m 3, upd a_first m (nI a), upd a_second m (nI b), upd a_low m 0, upd (upd a_high m 0) m 1, upd (upd a_parent a (nI m)) b (nI m), upd a_pathsOf m (ix_n (a_pathsOf a + a_pathsOf b) 1000), upd a_lengthOf m (ix_n (ix_x (a_lengthOf a) (a_lengthOf b)) 1000), upd a_choicesOf m (ix_n (1 + ix_x (a_choicesOf a) (a_choicesOf b)) 1000), upd a_stack h (nI m), a_worstPath, a_sureness, a_mostMisses, a_mostHits, a_leastMisses, a_endings, a_runsHolding, a_rounds, a_path, a_pathTop, a_cache, a_runMisses, a_runHits, a_table, a_before, a_behind)) : wpX_putIf post (f_setBits, f_placeCount, nI m, nI h, f_pathCount, f_greatestLength, f_worstTime, f_bestTime, f_worstCount, f_programBound, f_endingCount, f_chosen, f_time, a_kind, a_first, a_second, a_low, a_high, a_parent, a_pathsOf, a_lengthOf, a_choicesOf, a_stack, a_worstPath, a_sureness, a_mostMisses, a_mostHits, a_leastMisses, a_endings, a_runsHolding, a_rounds, a_path, a_pathTop, a_cache, a_runMisses, a_runHits, a_table, a_before, a_behind) (nI a) (nI b) := by
  have ca : (nI a).toNatClampNeg = a := nI_clamp (by omega)
  have cb : (nI b).toNatClampNeg = b := nI_clamp (by omega)
  have cm : (nI m).toNatClampNeg = m := nI_clamp (by omega)
  have ia : vp_in (nI a) 18 := vp_in_nI ha (by omega)
  have ib : vp_in (nI b) 18 := vp_in_nI hb (by omega)
  have im : vp_in (nI m) 18 := vp_in_nI hm (by omega)
  unfold wpX_putIf
  refine xp_put hm hh ?_
  refine And.intro im (um_u cm ⟨ia, um_u ca ⟨ib, um_u cb ⟨ia, ib, ?_⟩⟩⟩)
  rw [ca, cb]
  refine ix_G ⟨ia, ib, ix_G ⟨ia, ib, ?_⟩⟩
  exact xm_meas hm H
theorem xp_42 {f_setBits : Int32} {f_placeCount : Int32} {f_made : Int32} {f_height : Int32} {f_pathCount : Int32} {f_greatestLength : Int32} {f_worstTime : Int32} {f_bestTime : Int32} {f_worstCount : Int32} {f_programBound : Int32} {f_endingCount : Int32} {f_chosen : Int32} {f_time : Int32} {a_kind : Nat → Int32} {a_first : Nat → Int32} {a_second : Nat → Int32} {a_low : Nat → Int32} {a_high : Nat → Int32} {a_parent : Nat → Int32} {a_pathsOf : Nat → Int32} {a_lengthOf : Nat → Int32} {a_choicesOf : Nat → Int32} {a_stack : Nat → Int32} {a_worstPath : Nat → Int32} {a_sureness : Nat → Int32} {a_mostMisses : Nat → Int32} {a_mostHits : Nat → Int32} {a_leastMisses : Nat → Int32} {a_endings : Nat → Int64} {a_runsHolding : Nat → Int32} {a_rounds : Nat → Int32} {a_path : Nat → Int32} {a_pathTop : Nat → Int32} {a_cache : Nat → Int32} {a_runMisses : Nat → Int32} {a_runHits : Nat → Int32} {a_table : Nat → Int32} {a_before : Nat → Int32} {a_behind : Nat → Int32} {post : Int32 → SX → Prop} {m a lo hi P : Nat} (hm : m < 18) (ha : a < 18) (hlo : lo ≤ hi) (hhi : hi ≤ 4) (hP1 : 1 ≤ P) (hP : a_pathsOf a = nI (min P 1000))
    (H : post (nI m) (f_setBits, f_placeCount, f_made, f_height, f_pathCount, f_greatestLength, f_worstTime, f_bestTime, f_worstCount, f_programBound, f_endingCount, f_chosen, f_time, a_kind, a_first, a_second, a_low, a_high, a_parent, upd a_pathsOf m (ix_n (nI (mn_tt P lo (hi + 1))) 1000), upd a_lengthOf m (ix_n (nI hi * (1 + a_lengthOf a)) 1000), upd a_choicesOf m (ix_n (nI (if lo < hi then 1 else 0) + nI hi * a_choicesOf a) 1000), a_stack, a_worstPath, a_sureness, a_mostMisses, a_mostHits, a_leastMisses, a_endings, a_runsHolding, a_rounds, a_path, a_pathTop, a_cache, a_runMisses, a_runHits, a_table, a_before, a_behind)) :
    ∀ d i, i + d = hi + 1 → wX_putLoop_42 post (nI a) (nI lo) (nI hi) (nI m) f_setBits f_placeCount f_made f_height f_pathCount f_greatestLength f_worstTime f_bestTime f_worstCount f_programBound f_endingCount f_chosen f_time a_kind a_first a_second a_low a_high a_parent a_pathsOf a_lengthOf a_choicesOf a_stack a_worstPath a_sureness a_mostMisses a_mostHits a_leastMisses a_endings a_runsHolding a_rounds a_path a_pathTop a_cache a_runMisses a_runHits a_table a_before a_behind (d + 1) (nI (mn_tt P lo i)) (nI (min (P ^ i) 1000)) (nI i) := by
  have ca : (nI a).toNatClampNeg = a := nI_clamp (by omega)
  have ia : vp_in (nI a) 18 := vp_in_nI ha (by omega)
  have W : ∀ z0 : Int32, z0 = nI (if lo < hi then 1 else 0) → wX_putLoop_94 post (nI a) (nI hi) (nI m) (nI (mn_tt P lo (hi + 1))) z0 f_setBits f_placeCount f_made f_height f_pathCount f_greatestLength f_worstTime f_bestTime f_worstCount f_programBound f_endingCount f_chosen f_time a_kind a_first a_second a_low a_high a_parent a_pathsOf a_lengthOf a_choicesOf a_stack a_worstPath a_sureness a_mostMisses a_mostHits a_leastMisses a_endings a_runsHolding a_rounds a_path a_pathTop a_cache a_runMisses a_runHits a_table a_before a_behind := by
    intro z0 e
    subst e
    refine And.intro ia ⟨ia, ?_⟩
    rw [ca]
    exact xm_meas hm H
  intro d
  induction d with
  | zero =>
    intro i hi'
    have hi' : i = hi + 1 := by omega
    subst hi'
    refine br_t (nI_lt (by omega) (by omega)) ?_
    by_cases z : lo < hi
    · exact br_f (nI_ge z (by omega)) (W 1 (by rw [if_pos z]; rfl))
    · exact br_t (nI_le (by omega) (by omega)) (W 0 (by rw [if_neg z]; rfl))
  | succ d ih =>
    intro i hi'
    refine br_f (nI_nlt (by omega) (by omega)) ?_
    have hb : min (P ^ i) 1000 * min P 1000 < 2 ^ 31 := by
      have : min (P ^ i) 1000 * min P 1000 ≤ 1000 * 1000 := Nat.mul_le_mul (Nat.min_le_right _ _) (Nat.min_le_right _ _)
      omega
    have step : ∀ x5 : Int32, x5 = nI (mn_tt P lo (i + 1)) → wX_putLoop_61 post (wX_putLoop_42 post (nI a) (nI lo) (nI hi) (nI m) f_setBits f_placeCount f_made f_height f_pathCount f_greatestLength f_worstTime f_bestTime f_worstCount f_programBound f_endingCount f_chosen f_time a_kind a_first a_second a_low a_high a_parent a_pathsOf a_lengthOf a_choicesOf a_stack a_worstPath a_sureness a_mostMisses a_mostHits a_leastMisses a_endings a_runsHolding a_rounds a_path a_pathTop a_cache a_runMisses a_runHits a_table a_before a_behind (d + 1)) (nI a) (nI lo) (nI hi) (nI m) x5 (nI (min (P ^ i) 1000)) (nI i) f_setBits f_placeCount f_made f_height f_pathCount f_greatestLength f_worstTime f_bestTime f_worstCount f_programBound f_endingCount f_chosen f_time a_kind a_first a_second a_low a_high a_parent a_pathsOf a_lengthOf a_choicesOf a_stack a_worstPath a_sureness a_mostMisses a_mostHits a_leastMisses a_endings a_runsHolding a_rounds a_path a_pathTop a_cache a_runMisses a_runHits a_table a_before a_behind := by
      intro x5 e
      subst e
      refine And.intro ia ?_
      rw [ca, hP, pk_mul]
      refine ix_L ?_
      rw [xm_nat hb, mn_pow hP1]
      exact nm_r (nI_1 i) (ih (i + 1) (by omega))
    by_cases z : i < lo
    · refine br_t (nI_lt z (by omega)) (step _ ?_)
      show nI (mn_tt P lo i) = nI (mn_tt P lo i + (if lo ≤ i then min (P ^ i) 1000 else 0))
      rw [if_neg (by omega)]; rfl
    · refine br_f (nI_nlt (by omega) (by omega)) (nm_r (nI_add _ _) (step _ ?_))
      show nI (mn_tt P lo i + min (P ^ i) 1000) = nI (mn_tt P lo i + (if lo ≤ i then min (P ^ i) 1000 else 0))
      rw [if_pos (by omega)]
theorem xp_loop {f_setBits : Int32} {f_placeCount : Int32} {f_pathCount : Int32} {f_greatestLength : Int32} {f_worstTime : Int32} {f_bestTime : Int32} {f_worstCount : Int32} {f_programBound : Int32} {f_endingCount : Int32} {f_chosen : Int32} {f_time : Int32} {a_kind : Nat → Int32} {a_first : Nat → Int32} {a_second : Nat → Int32} {a_low : Nat → Int32} {a_high : Nat → Int32} {a_parent : Nat → Int32} {a_pathsOf : Nat → Int32} {a_lengthOf : Nat → Int32} {a_choicesOf : Nat → Int32} {a_stack : Nat → Int32} {a_worstPath : Nat → Int32} {a_sureness : Nat → Int32} {a_mostMisses : Nat → Int32} {a_mostHits : Nat → Int32} {a_leastMisses : Nat → Int32} {a_endings : Nat → Int64} {a_runsHolding : Nat → Int32} {a_rounds : Nat → Int32} {a_path : Nat → Int32} {a_pathTop : Nat → Int32} {a_cache : Nat → Int32} {a_runMisses : Nat → Int32} {a_runHits : Nat → Int32} {a_table : Nat → Int32} {a_before : Nat → Int32} {a_behind : Nat → Int32} {post : Int32 → SX → Prop} {m h a lo hi P : Nat} (hm : m < 18) (hh : h < 18) (ha : a < 18) (hlo : lo ≤ hi) (hhi : hi ≤ 4) (hP1 : 1 ≤ P) (hP : a_pathsOf a = nI (min P 1000))
    (H : post (nI m) (f_setBits, f_placeCount, nI (m + 1), nI (h + 1), f_pathCount, f_greatestLength, f_worstTime, f_bestTime, f_worstCount, f_programBound, f_endingCount, f_chosen, f_time, upd a_kind m 4, upd a_first m (nI a), upd a_second m 0, upd (upd a_low m 0) m (nI lo), upd (upd a_high m 0) m (nI hi), upd a_parent a (nI m), upd a_pathsOf m (ix_n (nI (mn_tt P lo (hi + 1))) 1000), upd a_lengthOf m (ix_n (nI hi * (1 + a_lengthOf a)) 1000), upd a_choicesOf m (ix_n (nI (if lo < hi then 1 else 0) + nI hi * a_choicesOf a) 1000), upd a_stack h (nI m), a_worstPath, a_sureness, a_mostMisses, a_mostHits, a_leastMisses, a_endings, a_runsHolding, a_rounds, a_path, a_pathTop, a_cache, a_runMisses, a_runHits, a_table, a_before, a_behind)) : wpX_putLoop post (f_setBits, f_placeCount, nI m, nI h, f_pathCount, f_greatestLength, f_worstTime, f_bestTime, f_worstCount, f_programBound, f_endingCount, f_chosen, f_time, a_kind, a_first, a_second, a_low, a_high, a_parent, a_pathsOf, a_lengthOf, a_choicesOf, a_stack, a_worstPath, a_sureness, a_mostMisses, a_mostHits, a_leastMisses, a_endings, a_runsHolding, a_rounds, a_path, a_pathTop, a_cache, a_runMisses, a_runHits, a_table, a_before, a_behind) (nI a) (nI lo) (nI hi) := by
  have ca : (nI a).toNatClampNeg = a := nI_clamp (by omega)
  have cm : (nI m).toNatClampNeg = m := nI_clamp (by omega)
  have ia : vp_in (nI a) 18 := vp_in_nI ha (by omega)
  have im : vp_in (nI m) 18 := vp_in_nI hm (by omega)
  unfold wpX_putLoop
  refine xp_put hm hh ?_
  refine And.intro im (um_u cm ⟨im, um_u cm ⟨ia, um_u ca ⟨hi + 2, ?_⟩⟩⟩)
  exact xp_42 hm ha hlo hhi hP1 hP H (hi + 1) 0 (by omega)
end
section
/-! Y: making statements -/
theorem yr_18 (a : Nat) : 18 + nI a = nI (18 + a) := nI_add 18 a
theorem yr_c {a : Nat} (h : a < 18) : (18 + nI a).toNatClampNeg = 18 + a := by rw [yr_18]; exact nI_clamp (by omega)
theorem yr_i {a : Nat} (h : a < 18) : vp_in (18 + nI a) 36 := by rw [yr_18]; exact vp_in_nI (by omega) (by omega)
section
variable {post : SY → Prop} {m : Nat}
theorem ym_leaf {h_sets : Int32} {h_places : Int32} {h_made : Int32} {h_depth : Int32} {h_size : Int32} {h_open : Int32} {h_time : Int32} {h_chosen : Int32} {h_kept : Int32} {h_worst : Int32} {h_best : Int32} {h_worstRuns : Int32} {h_worstChoices : Int32} {h_ends : Int32} {h_bound : Int32} {h_under : Int32} {h_back : Int32} {b_sorts : Nat → Int32} {b_lows : Nat → Int32} {b_highs : Nat → Int32} {b_firsts : Nat → Int32} {b_seconds : Nat → Int32} {b_stack : Nat → Int32} {b_pathsOf : Nat → Int32} {b_lengthOf : Nat → Int32} {b_choicesOf : Nat → Int32} {b_todo : Nat → Int32} {b_cache : Nat → Int32} {b_path : Nat → Int32} {b_tops : Nat → Int32} {b_missed : Nat → Int32} {b_struck : Nat → Int32} {b_worstPath : Nat → Int32} {b_mostMissed : Nat → Int32} {b_mostStruck : Nat → Int32} {b_leastMissed : Nat → Int32} {b_held : Nat → Int32} {b_contents : Nat → Int64} {b_ages : Nat → Int32} {b_phase : Nat → Int32} {b_node : Nat → Int32} {b_sum : Nat → Int32} {b_saved : Nat → Int32} {b_greatest : Nat → Int32} {b_met : Nat → Int32} {b_unsure : Nat → Int32} (hm : m < 18) (h2 : ¬ b_sorts (18 + m) = 2) (h3 : ¬ b_sorts (18 + m) = 3) (h4 : ¬ b_sorts (18 + m) = 4) (H : post (h_sets, h_places, h_made, h_depth, h_size, h_open, h_time, h_chosen, h_kept, h_worst, h_best, h_worstRuns, h_worstChoices, h_ends, h_bound, h_under, h_back, b_sorts, b_lows, b_highs, b_firsts, b_seconds, b_stack, upd b_pathsOf (18 + m) (nI 1), upd b_lengthOf (18 + m) (nI 1), upd b_choicesOf (18 + m) (nI 0), b_todo, b_cache, b_path, b_tops, b_missed, b_struck, b_worstPath, b_mostMissed, b_mostStruck, b_leastMissed, b_held, b_contents, b_ages, b_phase, b_node, b_sum, b_saved, b_greatest, b_met, b_unsure)) : wpY_measure post (h_sets, h_places, h_made, h_depth, h_size, h_open, h_time, h_chosen, h_kept, h_worst, h_best, h_worstRuns, h_worstChoices, h_ends, h_bound, h_under, h_back, b_sorts, b_lows, b_highs, b_firsts, b_seconds, b_stack, b_pathsOf, b_lengthOf, b_choicesOf, b_todo, b_cache, b_path, b_tops, b_missed, b_struck, b_worstPath, b_mostMissed, b_mostStruck, b_leastMissed, b_held, b_contents, b_ages, b_phase, b_node, b_sum, b_saved, b_greatest, b_met, b_unsure) (nI (18 + m)) := by
  have c : (nI (18 + m)).toNatClampNeg = 18 + m := nI_clamp (by omega)
  have i : vp_in (nI (18 + m)) 36 := vp_in_nI (by omega) (by omega)
  refine And.intro i (nm_e ⟨i, nm_e ⟨i, um_u c ⟨i, um_u c ⟨i, um_u c ⟨i, ?_⟩⟩⟩⟩⟩)
  rw [c]
  exact br_f h2 ⟨i, br_f h3 ⟨i, br_f h4 H⟩⟩
theorem ym_seq {h_sets : Int32} {h_places : Int32} {h_made : Int32} {h_depth : Int32} {h_size : Int32} {h_open : Int32} {h_time : Int32} {h_chosen : Int32} {h_kept : Int32} {h_worst : Int32} {h_best : Int32} {h_worstRuns : Int32} {h_worstChoices : Int32} {h_ends : Int32} {h_bound : Int32} {h_under : Int32} {h_back : Int32} {b_sorts : Nat → Int32} {b_lows : Nat → Int32} {b_highs : Nat → Int32} {b_firsts : Nat → Int32} {b_seconds : Nat → Int32} {b_stack : Nat → Int32} {b_pathsOf : Nat → Int32} {b_lengthOf : Nat → Int32} {b_choicesOf : Nat → Int32} {b_todo : Nat → Int32} {b_cache : Nat → Int32} {b_path : Nat → Int32} {b_tops : Nat → Int32} {b_missed : Nat → Int32} {b_struck : Nat → Int32} {b_worstPath : Nat → Int32} {b_mostMissed : Nat → Int32} {b_mostStruck : Nat → Int32} {b_leastMissed : Nat → Int32} {b_held : Nat → Int32} {b_contents : Nat → Int64} {b_ages : Nat → Int32} {b_phase : Nat → Int32} {b_node : Nat → Int32} {b_sum : Nat → Int32} {b_saved : Nat → Int32} {b_greatest : Nat → Int32} {b_met : Nat → Int32} {b_unsure : Nat → Int32} {a b : Nat} (hm : m < 18) (ha : a < m) (hb : b < m) (h2 : b_sorts (18 + m) = 2) (ea : b_firsts (18 + m) = nI a) (eb : b_seconds (18 + m) = nI b)
    (H : post (h_sets, h_places, h_made, h_depth, h_size, h_open, h_time, h_chosen, h_kept, h_worst, h_best, h_worstRuns, h_worstChoices, h_ends, h_bound, h_under, h_back, b_sorts, b_lows, b_highs, b_firsts, b_seconds, b_stack, upd (upd b_pathsOf (18 + m) 1) (18 + m) (ix_n 1000 (b_pathsOf (18 + a) * b_pathsOf (18 + b))), upd (upd b_lengthOf (18 + m) 1) (18 + m) (ix_n 1000 (b_lengthOf (18 + a) + b_lengthOf (18 + b))), upd (upd b_choicesOf (18 + m) 0) (18 + m) (ix_n 1000 (b_choicesOf (18 + a) + b_choicesOf (18 + b))), b_todo, b_cache, b_path, b_tops, b_missed, b_struck, b_worstPath, b_mostMissed, b_mostStruck, b_leastMissed, b_held, b_contents, b_ages, b_phase, b_node, b_sum, b_saved, b_greatest, b_met, b_unsure)) : wpY_measure post (h_sets, h_places, h_made, h_depth, h_size, h_open, h_time, h_chosen, h_kept, h_worst, h_best, h_worstRuns, h_worstChoices, h_ends, h_bound, h_under, h_back, b_sorts, b_lows, b_highs, b_firsts, b_seconds, b_stack, b_pathsOf, b_lengthOf, b_choicesOf, b_todo, b_cache, b_path, b_tops, b_missed, b_struck, b_worstPath, b_mostMissed, b_mostStruck, b_leastMissed, b_held, b_contents, b_ages, b_phase, b_node, b_sum, b_saved, b_greatest, b_met, b_unsure) (nI (18 + m)) := by
  have c : (nI (18 + m)).toNatClampNeg = 18 + m := nI_clamp (by omega)
  have i : vp_in (nI (18 + m)) 36 := vp_in_nI (by omega) (by omega)
  have ca := yr_c (show a < 18 by omega)
  have cb := yr_c (show b < 18 by omega)
  have ia := yr_i (show a < 18 by omega)
  have ib := yr_i (show b < 18 by omega)
  refine And.intro i (nm_r (e' := 18 + nI a) (by rw [c, ea]) ⟨i, nm_r (e' := 18 + nI b) (by rw [c, eb]) ⟨i, um_u c ⟨i, um_u c ⟨i, um_u c ⟨i, ?_⟩⟩⟩⟩⟩)
  rw [c, ca, cb, us_n (by omega), us_n (by omega), us_n (by omega), us_n (by omega), us_n (by omega), us_n (by omega)]
  refine br_t h2 ⟨ia, ib, ?_⟩
  refine iy_L ⟨i, nm_e ⟨ia, ib, ?_⟩⟩
  refine iy_L ⟨i, nm_e ⟨ia, ib, ?_⟩⟩
  exact iy_L ⟨i, nm_e H⟩
theorem ym_if {h_sets : Int32} {h_places : Int32} {h_made : Int32} {h_depth : Int32} {h_size : Int32} {h_open : Int32} {h_time : Int32} {h_chosen : Int32} {h_kept : Int32} {h_worst : Int32} {h_best : Int32} {h_worstRuns : Int32} {h_worstChoices : Int32} {h_ends : Int32} {h_bound : Int32} {h_under : Int32} {h_back : Int32} {b_sorts : Nat → Int32} {b_lows : Nat → Int32} {b_highs : Nat → Int32} {b_firsts : Nat → Int32} {b_seconds : Nat → Int32} {b_stack : Nat → Int32} {b_pathsOf : Nat → Int32} {b_lengthOf : Nat → Int32} {b_choicesOf : Nat → Int32} {b_todo : Nat → Int32} {b_cache : Nat → Int32} {b_path : Nat → Int32} {b_tops : Nat → Int32} {b_missed : Nat → Int32} {b_struck : Nat → Int32} {b_worstPath : Nat → Int32} {b_mostMissed : Nat → Int32} {b_mostStruck : Nat → Int32} {b_leastMissed : Nat → Int32} {b_held : Nat → Int32} {b_contents : Nat → Int64} {b_ages : Nat → Int32} {b_phase : Nat → Int32} {b_node : Nat → Int32} {b_sum : Nat → Int32} {b_saved : Nat → Int32} {b_greatest : Nat → Int32} {b_met : Nat → Int32} {b_unsure : Nat → Int32} {a b : Nat} (hm : m < 18) (ha : a < m) (hb : b < m) (h2 : b_sorts (18 + m) = 3) (ea : b_firsts (18 + m) = nI a) (eb : b_seconds (18 + m) = nI b)
    (H : post (h_sets, h_places, h_made, h_depth, h_size, h_open, h_time, h_chosen, h_kept, h_worst, h_best, h_worstRuns, h_worstChoices, h_ends, h_bound, h_under, h_back, b_sorts, b_lows, b_highs, b_firsts, b_seconds, b_stack, upd (upd b_pathsOf (18 + m) 1) (18 + m) (ix_n 1000 (b_pathsOf (18 + a) + b_pathsOf (18 + b))), upd (upd b_lengthOf (18 + m) 1) (18 + m) (ix_x (b_lengthOf (18 + a)) (b_lengthOf (18 + b))), upd (upd b_choicesOf (18 + m) 0) (18 + m) (ix_n 1000 (1 + ix_x (b_choicesOf (18 + a)) (b_choicesOf (18 + b)))), b_todo, b_cache, b_path, b_tops, b_missed, b_struck, b_worstPath, b_mostMissed, b_mostStruck, b_leastMissed, b_held, b_contents, b_ages, b_phase, b_node, b_sum, b_saved, b_greatest, b_met, b_unsure)) : wpY_measure post (h_sets, h_places, h_made, h_depth, h_size, h_open, h_time, h_chosen, h_kept, h_worst, h_best, h_worstRuns, h_worstChoices, h_ends, h_bound, h_under, h_back, b_sorts, b_lows, b_highs, b_firsts, b_seconds, b_stack, b_pathsOf, b_lengthOf, b_choicesOf, b_todo, b_cache, b_path, b_tops, b_missed, b_struck, b_worstPath, b_mostMissed, b_mostStruck, b_leastMissed, b_held, b_contents, b_ages, b_phase, b_node, b_sum, b_saved, b_greatest, b_met, b_unsure) (nI (18 + m)) := by
  have c : (nI (18 + m)).toNatClampNeg = 18 + m := nI_clamp (by omega)
  have i : vp_in (nI (18 + m)) 36 := vp_in_nI (by omega) (by omega)
  have ca := yr_c (show a < 18 by omega)
  have cb := yr_c (show b < 18 by omega)
  have ia := yr_i (show a < 18 by omega)
  have ib := yr_i (show b < 18 by omega)
  refine And.intro i (nm_r (e' := 18 + nI a) (by rw [c, ea]) ⟨i, nm_r (e' := 18 + nI b) (by rw [c, eb]) ⟨i, um_u c ⟨i, um_u c ⟨i, um_u c ⟨i, ?_⟩⟩⟩⟩⟩)
  rw [c, ca, cb, us_n (by omega), us_n (by omega), us_n (by omega), us_n (by omega), us_n (by omega), us_n (by omega)]
  refine br_f (by rw [h2]; decide) ⟨i, br_t h2 ⟨ia, ib, ?_⟩⟩
  refine iy_L ⟨i, nm_e ⟨ia, ib, ?_⟩⟩
  refine iy_M ⟨i, nm_e ⟨ia, ib, ?_⟩⟩
  refine iy_M ?_
  exact iy_L ⟨i, nm_e H⟩
theorem ym_8 {h_sets : Int32} {h_places : Int32} {h_made : Int32} {h_depth : Int32} {h_size : Int32} {h_open : Int32} {h_time : Int32} {h_chosen : Int32} {h_kept : Int32} {h_worst : Int32} {h_best : Int32} {h_worstRuns : Int32} {h_worstChoices : Int32} {h_ends : Int32} {h_bound : Int32} {h_under : Int32} {h_back : Int32} {b_sorts : Nat → Int32} {b_lows : Nat → Int32} {b_highs : Nat → Int32} {b_firsts : Nat → Int32} {b_seconds : Nat → Int32} {b_stack : Nat → Int32} {b_pathsOf : Nat → Int32} {b_lengthOf : Nat → Int32} {b_choicesOf : Nat → Int32} {b_todo : Nat → Int32} {b_cache : Nat → Int32} {b_path : Nat → Int32} {b_tops : Nat → Int32} {b_missed : Nat → Int32} {b_struck : Nat → Int32} {b_worstPath : Nat → Int32} {b_mostMissed : Nat → Int32} {b_mostStruck : Nat → Int32} {b_leastMissed : Nat → Int32} {b_held : Nat → Int32} {b_contents : Nat → Int64} {b_ages : Nat → Int32} {b_phase : Nat → Int32} {b_node : Nat → Int32} {b_sum : Nat → Int32} {b_saved : Nat → Int32} {b_greatest : Nat → Int32} {b_met : Nat → Int32} {b_unsure : Nat → Int32} {a lo hi P : Nat} (hm : m < 18) (ha : a < m) (hlo : lo ≤ hi) (hhi : hi ≤ 4) (hP1 : 1 ≤ P) (hP : b_pathsOf (18 + a) = nI (min P 1000)) (el : b_lows (18 + m) = nI lo) (eh : b_highs (18 + m) = nI hi)
    (H : post (h_sets, h_places, h_made, h_depth, h_size, h_open, h_time, h_chosen, h_kept, h_worst, h_best, h_worstRuns, h_worstChoices, h_ends, h_bound, h_under, h_back, b_sorts, b_lows, b_highs, b_firsts, b_seconds, b_stack, upd b_pathsOf (18 + m) (nI (min (ps_s P lo (hi + 1)) 1000)), upd b_lengthOf (18 + m) (ix_n 1000 (nI hi * (1 + b_lengthOf (18 + a)))), upd b_choicesOf (18 + m) (ix_n 1000 (nI hi * b_choicesOf (18 + a) + nI (if lo < hi then 1 else 0))), b_todo, b_cache, b_path, b_tops, b_missed, b_struck, b_worstPath, b_mostMissed, b_mostStruck, b_leastMissed, b_held, b_contents, b_ages, b_phase, b_node, b_sum, b_saved, b_greatest, b_met, b_unsure)) :
    ∀ d i, i + d = hi + 1 → wY_measureLoop_8 post (nI (18 + m)) (18 + nI a) h_sets h_places h_made h_depth h_size h_open h_time h_chosen h_kept h_worst h_best h_worstRuns h_worstChoices h_ends h_bound h_under h_back b_sorts b_lows b_highs b_firsts b_seconds b_stack b_pathsOf b_lengthOf b_choicesOf b_todo b_cache b_path b_tops b_missed b_struck b_worstPath b_mostMissed b_mostStruck b_leastMissed b_held b_contents b_ages b_phase b_node b_sum b_saved b_greatest b_met b_unsure (d + 1) (nI (min (P ^ i) 1000)) (nI (min (ps_s P lo i) 1000)) (nI i) := by
  have c : (nI (18 + m)).toNatClampNeg = 18 + m := nI_clamp (by omega)
  have im : vp_in (nI (18 + m)) 36 := vp_in_nI (by omega) (by omega)
  have ca := yr_c (show a < 18 by omega)
  have ia := yr_i (show a < 18 by omega)
  intro d
  induction d with
  | zero =>
    intro i hi'
    have hi' : i = hi + 1 := by omega
    subst hi'
    refine And.intro im ?_
    rw [c, eh, ca, el]
    refine br_t (nI_lt (by omega) (by omega)) ⟨im, nm_e ⟨im, ia, ?_⟩⟩
    refine iy_L ⟨im, nm_e ⟨im, ia, im, im, ?_⟩⟩
    by_cases z : lo < hi
    · rw [if_pos z] at H
      refine br_f (nI_ge z (by omega)) ?_
      refine iy_L ⟨im, ?_⟩
      rw [c]
      exact nm_e H
    · rw [if_neg z] at H
      refine br_t (nI_le (by omega) (by omega)) ?_
      refine iy_L ⟨im, ?_⟩
      rw [c]
      exact nm_e H
  | succ d ih =>
    intro i hi'
    have hb : min (P ^ i) 1000 * min P 1000 < 2 ^ 31 := by
      have : min (P ^ i) 1000 * min P 1000 ≤ 1000 * 1000 := Nat.mul_le_mul (Nat.min_le_right _ _) (Nat.min_le_right _ _)
      omega
    have step : ∀ x4 : Int32, x4 = nI (min (ps_s P lo (i + 1)) 1000) → wY_measureLoop_43 post (wY_measureLoop_8 post (nI (18 + m)) (18 + nI a) h_sets h_places h_made h_depth h_size h_open h_time h_chosen h_kept h_worst h_best h_worstRuns h_worstChoices h_ends h_bound h_under h_back b_sorts b_lows b_highs b_firsts b_seconds b_stack b_pathsOf b_lengthOf b_choicesOf b_todo b_cache b_path b_tops b_missed b_struck b_worstPath b_mostMissed b_mostStruck b_leastMissed b_held b_contents b_ages b_phase b_node b_sum b_saved b_greatest b_met b_unsure (d + 1)) (nI (18 + m)) (18 + nI a) (nI (min (P ^ i) 1000)) x4 (nI i) h_sets h_places h_made h_depth h_size h_open h_time h_chosen h_kept h_worst h_best h_worstRuns h_worstChoices h_ends h_bound h_under h_back b_sorts b_lows b_highs b_firsts b_seconds b_stack b_pathsOf b_lengthOf b_choicesOf b_todo b_cache b_path b_tops b_missed b_struck b_worstPath b_mostMissed b_mostStruck b_leastMissed b_held b_contents b_ages b_phase b_node b_sum b_saved b_greatest b_met b_unsure := by
      intro x4 e
      subst e
      refine And.intro ia ?_
      rw [ca, hP, pk_mul]
      refine iy_L ?_
      rw [xm_nat2 hb, mn_pow hP1]
      exact nm_r (nI_1 i) (ih (i + 1) (by omega))
    refine And.intro im ?_
    rw [c, eh, el]
    refine br_f (nI_nlt (by omega) (by omega)) ⟨im, ?_⟩
    by_cases z : i < lo
    · refine br_t (nI_lt z (by omega)) (step _ ?_)
      rw [ps_skip (by omega)]
    · refine br_f (nI_nlt (by omega) (by omega)) ?_
      rw [nI_add]
      refine iy_L (step _ ?_)
      rw [xm_nat2 (by omega), mn_ps, ps_next (by omega)]
theorem ym_loop {h_sets : Int32} {h_places : Int32} {h_made : Int32} {h_depth : Int32} {h_size : Int32} {h_open : Int32} {h_time : Int32} {h_chosen : Int32} {h_kept : Int32} {h_worst : Int32} {h_best : Int32} {h_worstRuns : Int32} {h_worstChoices : Int32} {h_ends : Int32} {h_bound : Int32} {h_under : Int32} {h_back : Int32} {b_sorts : Nat → Int32} {b_lows : Nat → Int32} {b_highs : Nat → Int32} {b_firsts : Nat → Int32} {b_seconds : Nat → Int32} {b_stack : Nat → Int32} {b_pathsOf : Nat → Int32} {b_lengthOf : Nat → Int32} {b_choicesOf : Nat → Int32} {b_todo : Nat → Int32} {b_cache : Nat → Int32} {b_path : Nat → Int32} {b_tops : Nat → Int32} {b_missed : Nat → Int32} {b_struck : Nat → Int32} {b_worstPath : Nat → Int32} {b_mostMissed : Nat → Int32} {b_mostStruck : Nat → Int32} {b_leastMissed : Nat → Int32} {b_held : Nat → Int32} {b_contents : Nat → Int64} {b_ages : Nat → Int32} {b_phase : Nat → Int32} {b_node : Nat → Int32} {b_sum : Nat → Int32} {b_saved : Nat → Int32} {b_greatest : Nat → Int32} {b_met : Nat → Int32} {b_unsure : Nat → Int32} {a lo hi P : Nat} (hm : m < 18) (ha : a < m) (hlo : lo ≤ hi) (hhi : hi ≤ 4) (hP1 : 1 ≤ P) (hP : b_pathsOf (18 + a) = nI (min P 1000)) (el : b_lows (18 + m) = nI lo) (eh : b_highs (18 + m) = nI hi) (h2 : b_sorts (18 + m) = 4) (ea : b_firsts (18 + m) = nI a)
    (H : post (h_sets, h_places, h_made, h_depth, h_size, h_open, h_time, h_chosen, h_kept, h_worst, h_best, h_worstRuns, h_worstChoices, h_ends, h_bound, h_under, h_back, b_sorts, b_lows, b_highs, b_firsts, b_seconds, b_stack, upd (upd b_pathsOf (18 + m) 1) (18 + m) (nI (min (ps_s P lo (hi + 1)) 1000)), upd (upd b_lengthOf (18 + m) 1) (18 + m) (ix_n 1000 (nI hi * (1 + b_lengthOf (18 + a)))), upd (upd b_choicesOf (18 + m) 0) (18 + m) (ix_n 1000 (nI hi * b_choicesOf (18 + a) + nI (if lo < hi then 1 else 0))), b_todo, b_cache, b_path, b_tops, b_missed, b_struck, b_worstPath, b_mostMissed, b_mostStruck, b_leastMissed, b_held, b_contents, b_ages, b_phase, b_node, b_sum, b_saved, b_greatest, b_met, b_unsure)) : wpY_measure post (h_sets, h_places, h_made, h_depth, h_size, h_open, h_time, h_chosen, h_kept, h_worst, h_best, h_worstRuns, h_worstChoices, h_ends, h_bound, h_under, h_back, b_sorts, b_lows, b_highs, b_firsts, b_seconds, b_stack, b_pathsOf, b_lengthOf, b_choicesOf, b_todo, b_cache, b_path, b_tops, b_missed, b_struck, b_worstPath, b_mostMissed, b_mostStruck, b_leastMissed, b_held, b_contents, b_ages, b_phase, b_node, b_sum, b_saved, b_greatest, b_met, b_unsure) (nI (18 + m)) := by
  have c : (nI (18 + m)).toNatClampNeg = 18 + m := nI_clamp (by omega)
  have i : vp_in (nI (18 + m)) 36 := vp_in_nI (by omega) (by omega)
  refine And.intro i (nm_r (e' := 18 + nI a) (by rw [c, ea]) ⟨i, nm_e ⟨i, um_u c ⟨i, um_u c ⟨i, um_u c ⟨i, ?_⟩⟩⟩⟩⟩)
  rw [c]
  refine br_f (by rw [h2]; decide) ⟨i, br_f (by rw [h2]; decide) ⟨i, br_t h2 ?_⟩⟩
  refine Exists.intro (hi + 2) ?_
  refine ym_8 (b_pathsOf := upd b_pathsOf (18 + m) 1) (b_lengthOf := upd b_lengthOf (18 + m) 1) (b_choicesOf := upd b_choicesOf (18 + m) 0) hm ha hlo hhi hP1 (by rw [us_n (by omega)]; exact hP) el eh ?_ (hi + 1) 0 (by omega)
  rw [us_n (show 18 + a ≠ 18 + m by omega), us_n (show 18 + a ≠ 18 + m by omega)]
  exact H
end
theorem ym_make {h_sets : Int32} {h_places : Int32} {h_size : Int32} {h_open : Int32} {h_time : Int32} {h_chosen : Int32} {h_kept : Int32} {h_worst : Int32} {h_best : Int32} {h_worstRuns : Int32} {h_worstChoices : Int32} {h_ends : Int32} {h_bound : Int32} {h_under : Int32} {h_back : Int32} {b_sorts : Nat → Int32} {b_lows : Nat → Int32} {b_highs : Nat → Int32} {b_firsts : Nat → Int32} {b_seconds : Nat → Int32} {b_stack : Nat → Int32} {b_pathsOf : Nat → Int32} {b_lengthOf : Nat → Int32} {b_choicesOf : Nat → Int32} {b_todo : Nat → Int32} {b_cache : Nat → Int32} {b_path : Nat → Int32} {b_tops : Nat → Int32} {b_missed : Nat → Int32} {b_struck : Nat → Int32} {b_worstPath : Nat → Int32} {b_mostMissed : Nat → Int32} {b_mostStruck : Nat → Int32} {b_leastMissed : Nat → Int32} {b_held : Nat → Int32} {b_contents : Nat → Int64} {b_ages : Nat → Int32} {b_phase : Nat → Int32} {b_node : Nat → Int32} {b_sum : Nat → Int32} {b_saved : Nat → Int32} {b_greatest : Nat → Int32} {b_met : Nat → Int32} {b_unsure : Nat → Int32} {post : Int32 → SY → Prop} {m h : Nat} {p0 p1 p2 p3 p4 : Int32} {pa le co : Nat → Int32} (hm : m < 18) (hh : h < 18)
    (M : ∀ (Q : SY → Prop), Q (h_sets, h_places, nI m, nI h, h_size, h_open, h_time, h_chosen, h_kept, h_worst, h_best, h_worstRuns, h_worstChoices, h_ends, h_bound, h_under, h_back, upd b_sorts (18 + m) p0, upd b_lows (18 + m) p1, upd b_highs (18 + m) p2, upd b_firsts (18 + m) p3, upd b_seconds (18 + m) p4, b_stack, pa, le, co, b_todo, b_cache, b_path, b_tops, b_missed, b_struck, b_worstPath, b_mostMissed, b_mostStruck, b_leastMissed, b_held, b_contents, b_ages, b_phase, b_node, b_sum, b_saved, b_greatest, b_met, b_unsure) → wpY_measure Q (h_sets, h_places, nI m, nI h, h_size, h_open, h_time, h_chosen, h_kept, h_worst, h_best, h_worstRuns, h_worstChoices, h_ends, h_bound, h_under, h_back, upd b_sorts (18 + m) p0, upd b_lows (18 + m) p1, upd b_highs (18 + m) p2, upd b_firsts (18 + m) p3, upd b_seconds (18 + m) p4, b_stack, b_pathsOf, b_lengthOf, b_choicesOf, b_todo, b_cache, b_path, b_tops, b_missed, b_struck, b_worstPath, b_mostMissed, b_mostStruck, b_leastMissed, b_held, b_contents, b_ages, b_phase, b_node, b_sum, b_saved, b_greatest, b_met, b_unsure) (nI (18 + m)))
    (H : post (nI m) (h_sets, h_places, nI (m + 1), nI (h + 1), h_size, h_open, h_time, h_chosen, h_kept, h_worst, h_best, h_worstRuns, h_worstChoices, h_ends, h_bound, h_under, h_back, upd b_sorts (18 + m) p0, upd b_lows (18 + m) p1, upd b_highs (18 + m) p2, upd b_firsts (18 + m) p3, upd b_seconds (18 + m) p4, upd b_stack h (nI m), pa, le, co, b_todo, b_cache, b_path, b_tops, b_missed, b_struck, b_worstPath, b_mostMissed, b_mostStruck, b_leastMissed, b_held, b_contents, b_ages, b_phase, b_node, b_sum, b_saved, b_greatest, b_met, b_unsure)) : wpY_make post (h_sets, h_places, nI m, nI h, h_size, h_open, h_time, h_chosen, h_kept, h_worst, h_best, h_worstRuns, h_worstChoices, h_ends, h_bound, h_under, h_back, b_sorts, b_lows, b_highs, b_firsts, b_seconds, b_stack, b_pathsOf, b_lengthOf, b_choicesOf, b_todo, b_cache, b_path, b_tops, b_missed, b_struck, b_worstPath, b_mostMissed, b_mostStruck, b_leastMissed, b_held, b_contents, b_ages, b_phase, b_node, b_sum, b_saved, b_greatest, b_met, b_unsure) p0 p1 p2 p3 p4 := by
  have c : (nI (18 + m)).toNatClampNeg = 18 + m := nI_clamp (by omega)
  have i : vp_in (nI (18 + m)) 36 := vp_in_nI (by omega) (by omega)
  have ch : (nI h).toNatClampNeg = h := nI_clamp (by omega)
  refine nm_r (yr_18 m) ⟨i, um_u c ⟨i, um_u c ⟨i, um_u c ⟨i, um_u c ⟨i, um_u c ?_⟩⟩⟩⟩⟩
  refine M _ ⟨vp_in_nI hh (by omega), um_u ch (nm_r (nI_1 h) (nm_r (nI_1 m) ?_))⟩
  rw [nI_pred]
  exact H
end
section
/-! a new statement: the tables of both sides again -/
theorem pn_leaf {g : Nat → Nat → Nat} {ma k v : Nat} (hk : (k = 0 ∧ v < 12) ∨ (k = 1 ∧ v ≤ 50)) : pg_n (gh_n g ma (gv_v k v 0 0 0 1 1 0 1 ma)) ma := by
  unfold pg_n
  simp only [gh_m, gv_v]
  refine ⟨Nat.le_refl _, Nat.le_refl _, ?_⟩
  rcases hk with ⟨h1, h2⟩ | ⟨h1, h2⟩
  · exact Or.inl ⟨h1, h2, by trivial, by trivial, by trivial, by trivial, by trivial, by trivial, by trivial⟩
  · exact Or.inr (Or.inl ⟨h1, h2, by trivial, by trivial, by trivial, by trivial, by trivial, by trivial, by trivial⟩)
theorem pn_seq {g : Nat → Nat → Nat} {ma a b : Nat} (T : pg_t g ma) (hab : a < b) (hb : b + 1 = ma) (hl : g 9 b = a + 1) : pg_n (gh_n g ma (gv_v 2 a b 0 0 (g 5 a * g 5 b) (g 6 a + g 6 b) (g 7 a + g 7 b) (1 + g 8 a + g 8 b) (g 9 a))) ma := by
  have e2 : ∀ (v : Nat → Nat) i, gh_n g ma v i a = g i a := fun v i => gh_e i a (by omega)
  have e3 : ∀ (v : Nat → Nat) i, gh_n g ma v i b = g i b := fun v i => gh_e i b (by omega)
  obtain ⟨a1, a2, -⟩ := T a (by omega)
  obtain ⟨b1, b2, -⟩ := T b (by omega)
  have pos : 1 ≤ g 5 a * g 5 b := Nat.mul_pos a2 b2
  unfold pg_n
  simp only [gh_m, gv_v, e2, e3]
  exact ⟨by omega, pos, Or.inr (Or.inr (Or.inl ⟨trivial, hab, hb, hl, trivial, trivial, trivial, trivial, trivial, trivial, trivial⟩))⟩
theorem pn_if {g : Nat → Nat → Nat} {ma a b : Nat} (T : pg_t g ma) (hab : a < b) (hb : b + 1 = ma) (hl : g 9 b = a + 1) : pg_n (gh_n g ma (gv_v 3 a b 0 1 (g 5 a + g 5 b) (max (g 6 a) (g 6 b)) (1 + max (g 7 a) (g 7 b)) (1 + g 8 a + g 8 b) (g 9 a))) ma := by
  have e2 : ∀ (v : Nat → Nat) i, gh_n g ma v i a = g i a := fun v i => gh_e i a (by omega)
  have e3 : ∀ (v : Nat → Nat) i, gh_n g ma v i b = g i b := fun v i => gh_e i b (by omega)
  obtain ⟨a1, a2, -⟩ := T a (by omega)
  obtain ⟨b1, b2, -⟩ := T b (by omega)
  unfold pg_n
  simp only [gh_m, gv_v, e2, e3]
  exact ⟨by omega, by omega, Or.inr (Or.inr (Or.inr (Or.inl ⟨trivial, hab, hb, hl, trivial, trivial, trivial, trivial, trivial, trivial, trivial⟩)))⟩
theorem pn_loop {g : Nat → Nat → Nat} {ma a lo hi : Nat} (T : pg_t g ma) (hb : a + 1 = ma) (hlo : lo ≤ hi) (hhi : hi ≤ 4) : pg_n (gh_n g ma (gv_v 4 a 0 lo hi (ps_s (g 5 a) lo (hi + 1)) (hi * (1 + g 6 a)) ((if lo < hi then 1 else 0) + hi * g 7 a) (1 + hi * g 8 a) (g 9 a))) ma := by
  have e2 : ∀ (v : Nat → Nat) i, gh_n g ma v i a = g i a := fun v i => gh_e i a (by omega)
  obtain ⟨a1, a2, -⟩ := T a (by omega)
  have pos := ps_pos a2 hlo
  unfold pg_n
  simp only [gh_m, gv_v, e2]
  exact ⟨by omega, pos, Or.inr (Or.inr (Or.inr (Or.inr ⟨trivial, hb, trivial, hlo, hhi, trivial, trivial, trivial, trivial⟩)))⟩
def rl_B (xm xh ym yd : Int32) (ki fi se lo hi pa xp xl xc xs so yl yh yf ys yp yn yc yk : Nat → Int32) : Prop :=
  ∃ (g : Nat → Nat → Nat) (sk : Nat → Nat) (ma he : Nat), pg_t g ma ∧ sk_s g ma he sk ∧ xm = nI ma ∧ ym = nI ma ∧ xh = nI he ∧ yd = nI he ∧ (∀ i, i < he → xs i = nI (sk i) ∧ yk i = nI (sk i)) ∧
    (∀ n, n < ma → xt_n g ki fi se lo hi pa n) ∧ (∀ n, n < ma → yt_n g 18 so yl yh yf ys n) ∧ (∀ n, n < ma → me_n g 0 xp xl xc n) ∧ (∀ n, n < ma → me_n g 18 yp yn yc n)
theorem nw_B {g : Nat → Nat → Nat} {sk v : Nat → Nat} {ma he b : Nat} {ki fi se lo hi pa xp xl xc xs so yl yh yf ys yp yn yc yk ki' fi' se' lo' hi' pa' xp' xl' xc' so' yl' yh' yf' ys' yp' yn' yc' : Nat → Int32}
    (T : pg_t g ma) (S : sk_s g ma he sk) (hb : b ≤ he) (hm : ma < 18) (St : ∀ i, i < he → xs i = nI (sk i) ∧ yk i = nI (sk i)) (XT : ∀ n, n < ma → xt_n g ki fi se lo hi pa n) (YT : ∀ n, n < ma → yt_n g 18 so yl yh yf ys n) (MX : ∀ n, n < ma → me_n g 0 xp xl xc n) (MY : ∀ n, n < ma → me_n g 18 yp yn yc n)
    (N : pg_n (gh_n g ma v) ma) (hL : 0 < b → sk (b - 1) + 1 = v 9) (hF : 2 ≤ v 0 → ∃ i, b ≤ i ∧ i < he ∧ v 1 = sk i) (hS : v 0 = 2 ∨ v 0 = 3 → ∃ i, b ≤ i ∧ i < he ∧ v 2 = sk i)
    (NX : xt_n (gh_n g ma v) ki' fi' se' lo' hi' pa' ma) (EX : ∀ n, n < ma → ki' n = ki n ∧ fi' n = fi n ∧ se' n = se n ∧ lo' n = lo n ∧ hi' n = hi n) (PX : ∀ x, (∀ i, b ≤ i → i < he → x ≠ sk i) → pa' x = pa x)
    (NY : yt_n (gh_n g ma v) 18 so' yl' yh' yf' ys' ma) (EY : ∀ n, n < ma → so' (18 + n) = so (18 + n) ∧ yl' (18 + n) = yl (18 + n) ∧ yh' (18 + n) = yh (18 + n) ∧ yf' (18 + n) = yf (18 + n) ∧ ys' (18 + n) = ys (18 + n))
    (NM : me_n (gh_n g ma v) 0 xp' xl' xc' ma) (EM : ∀ n, n < ma → xp' (0 + n) = xp (0 + n) ∧ xl' (0 + n) = xl (0 + n) ∧ xc' (0 + n) = xc (0 + n))
    (NN : me_n (gh_n g ma v) 18 yp' yn' yc' ma) (EN : ∀ n, n < ma → yp' (18 + n) = yp (18 + n) ∧ yn' (18 + n) = yn (18 + n) ∧ yc' (18 + n) = yc (18 + n)) :
    rl_B (nI (ma + 1)) (nI (b + 1)) (nI (ma + 1)) (nI (b + 1)) ki' fi' se' lo' hi' pa' xp' xl' xc' (upd xs b (nI ma)) so' yl' yh' yf' ys' yp' yn' yc' (upd yk b (nI ma)) := by
  refine ⟨gh_n g ma v, fun i => if i = b then ma else sk i, ma + 1, b + 1, pg_ext1 gh_e T N, nw_sk gh_e T S hb hm ?_ ?_ ?_, rfl, rfl, rfl, rfl, fun i hi => ?_, nw_xt gh_e S hb XT NX EX PX, nw_yt gh_e YT NY EY, nw_me gh_e MX NM EM, nw_me gh_e MY NN EN⟩
  · rw [gh_m]; exact hL
  · rw [gh_m, gh_m]; exact hF
  · rw [gh_m, gh_m]; exact hS
  · dsimp only
    by_cases z : i = b
    · subst z; rw [us_s, us_s, if_pos rfl]; exact ⟨rfl, rfl⟩
    · rw [us_n z, us_n z, if_neg z]; exact St i (by omega)
def rl_C (w s : Nat) (sb pc se pl : Int32) : Prop := 0 < w ∧ w ≤ 4 ∧ 0 < s ∧ s ≤ 4 ∧ (∀ x y, x < 12 → y < 12 → ((nI x &&& sb) = (nI y &&& sb) ↔ x % s = y % s)) ∧ pc = nI w ∧ se = nI s ∧ pl = nI w
def rl_A (w s : Nat) (xpc xgl xpb xwt xbt xwc xen : Int32) (xwp xsn xmm xmh xlm : Nat → Int32) (xe : Nat → Int64) (xh : Nat → Int32) (ysz ybd ywt ybt ywr ywc yen : Int32) (yso ypo ylo ywp ymm ymh ylm : Nat → Int32) (ye : Nat → Int64) (yh yme yus : Nat → Int32) : Prop :=
  ∃ (gp : Nat → Nat → Nat) (sz en : Nat), 1 ≤ sz ∧ sz ≤ 18 ∧ ysz = nI sz ∧ xpc = ypo (sz - 1) ∧ xgl = ylo (sz - 1) ∧ xpb = ybd ∧ (∀ n, n < sz → yso n = nI (gp 0 n) ∧ gp 0 n ≤ 4) ∧
    nr_R gp sz w s en xwt xbt xwc xen xwp xmm xmh xlm xe xh ywt ybt ywr ywc yen ywp ymm ymh ylm ye yh ∧ (∃ z, z ≤ 200000 ∧ ywt = nI z) ∧ nt_A gp sz xsn (fun n => if yme n = 0 then 0 else if yus n = 0 then 1 else 0)
theorem rl_A_low {w s : Nat} {xpc xgl xpb xwt xbt xwc xen : Int32} {xwp xsn xmm xmh xlm : Nat → Int32} {xe : Nat → Int64} {xh : Nat → Int32} {ysz ybd ywt ybt ywr ywc yen : Int32} {yso ypo ylo yso' ypo' ylo' ywp ymm ymh ylm : Nat → Int32} {ye : Nat → Int64} {yh yme yus : Nat → Int32}
    (A : rl_A w s xpc xgl xpb xwt xbt xwc xen xwp xsn xmm xmh xlm xe xh ysz ybd ywt ybt ywr ywc yen yso ypo ylo ywp ymm ymh ylm ye yh yme yus) (e : ∀ n, n < 18 → yso' n = yso n ∧ ypo' n = ypo n ∧ ylo' n = ylo n) : rl_A w s xpc xgl xpb xwt xbt xwc xen xwp xsn xmm xmh xlm xe xh ysz ybd ywt ybt ywr ywc yen yso' ypo' ylo' ywp ymm ymh ylm ye yh yme yus := by
  obtain ⟨gp, sz, en, h1, h2, h3, h4, h5, h6, h7, h8⟩ := A
  refine ⟨gp, sz, en, h1, h2, h3, ?_, ?_, h6, fun n hn => ?_, h8⟩
  · rw [(e (sz - 1) (by omega)).2.1]; exact h4
  · rw [(e (sz - 1) (by omega)).2.2]; exact h5
  · rw [(e n (by omega)).1]; exact h7 n hn
/-- the relation of the two states -/
def i_Rel (_ : Nat) (u : SX) (v : SY) : Prop := match u, v with
  | (f_setBits, f_placeCount, f_made, f_height, f_pathCount, f_greatestLength, f_worstTime, f_bestTime, f_worstCount, f_programBound, f_endingCount, f_chosen, f_time, a_kind, a_first, a_second, a_low, a_high, a_parent, a_pathsOf, a_lengthOf, a_choicesOf, a_stack, a_worstPath, a_sureness, a_mostMisses, a_mostHits, a_leastMisses, a_endings, a_runsHolding, a_rounds, a_path, a_pathTop, a_cache, a_runMisses, a_runHits, a_table, a_before, a_behind), (h_sets, h_places, h_made, h_depth, h_size, h_open, h_time, h_chosen, h_kept, h_worst, h_best, h_worstRuns, h_worstChoices, h_ends, h_bound, h_under, h_back, b_sorts, b_lows, b_highs, b_firsts, b_seconds, b_stack, b_pathsOf, b_lengthOf, b_choicesOf, b_todo, b_cache, b_path, b_tops, b_missed, b_struck, b_worstPath, b_mostMissed, b_mostStruck, b_leastMissed, b_held, b_contents, b_ages, b_phase, b_node, b_sum, b_saved, b_greatest, b_met, b_unsure) => ∃ w s : Nat, rl_C w s f_setBits f_placeCount h_sets h_places ∧
      rl_B f_made f_height h_made h_depth a_kind a_first a_second a_low a_high a_parent a_pathsOf a_lengthOf a_choicesOf a_stack b_sorts b_lows b_highs b_firsts b_seconds b_pathsOf b_lengthOf b_choicesOf b_stack ∧
      rl_A w s f_pathCount f_greatestLength f_programBound f_worstTime f_bestTime f_worstCount f_endingCount a_worstPath a_sureness a_mostMisses a_mostHits a_leastMisses a_endings a_runsHolding h_size h_bound h_worst h_best h_worstRuns h_worstChoices h_ends b_sorts b_pathsOf b_lengthOf b_worstPath b_mostMissed b_mostStruck b_leastMissed b_contents b_held b_met b_unsure
theorem i_up {k : Nat} {u : SX} {v : SY} (h : i_Rel k u v) : i_Rel (k + 3) u v := h
end
section
/-! the methods that only read -/
theorem xi_no {Q : Int32 → Prop} {v : Int32} (h : v < 0 ∨ 18 ≤ v) (H : Q 0) : wpX_isNumber Q v := by
  by_cases z : v < 0
  · exact br_t z H
  · exact br_f z (br_t (h.resolve_left z) H)
theorem xi_yes {Q : Int32 → Prop} {j : Nat} (h : j < 18) (H : Q 1) : wpX_isNumber Q (nI j) :=
  br_f (nI_pos (by omega)) (br_f (nI_ge (b := 18) h (by omega)) H)
theorem yi_neg {h_sets : Int32} {h_places : Int32} {h_made : Int32} {h_depth : Int32} {h_size : Int32} {h_open : Int32} {h_time : Int32} {h_chosen : Int32} {h_kept : Int32} {h_worst : Int32} {h_best : Int32} {h_worstRuns : Int32} {h_worstChoices : Int32} {h_ends : Int32} {h_bound : Int32} {h_under : Int32} {h_back : Int32} {b_sorts : Nat → Int32} {b_lows : Nat → Int32} {b_highs : Nat → Int32} {b_firsts : Nat → Int32} {b_seconds : Nat → Int32} {b_stack : Nat → Int32} {b_pathsOf : Nat → Int32} {b_lengthOf : Nat → Int32} {b_choicesOf : Nat → Int32} {b_todo : Nat → Int32} {b_cache : Nat → Int32} {b_path : Nat → Int32} {b_tops : Nat → Int32} {b_missed : Nat → Int32} {b_struck : Nat → Int32} {b_worstPath : Nat → Int32} {b_mostMissed : Nat → Int32} {b_mostStruck : Nat → Int32} {b_leastMissed : Nat → Int32} {b_held : Nat → Int32} {b_contents : Nat → Int64} {b_ages : Nat → Int32} {b_phase : Nat → Int32} {b_node : Nat → Int32} {b_sum : Nat → Int32} {b_saved : Nat → Int32} {b_greatest : Nat → Int32} {b_met : Nat → Int32} {b_unsure : Nat → Int32} {Q : Int32 → Prop} {v : Int32} (h : v < 0) (H : Q 1) : wpY_noAccess Q (h_sets, h_places, h_made, h_depth, h_size, h_open, h_time, h_chosen, h_kept, h_worst, h_best, h_worstRuns, h_worstChoices, h_ends, h_bound, h_under, h_back, b_sorts, b_lows, b_highs, b_firsts, b_seconds, b_stack, b_pathsOf, b_lengthOf, b_choicesOf, b_todo, b_cache, b_path, b_tops, b_missed, b_struck, b_worstPath, b_mostMissed, b_mostStruck, b_leastMissed, b_held, b_contents, b_ages, b_phase, b_node, b_sum, b_saved, b_greatest, b_met, b_unsure) v := br_t h H
theorem yi_no {h_sets : Int32} {h_places : Int32} {h_made : Int32} {h_depth : Int32} {h_size : Int32} {h_open : Int32} {h_time : Int32} {h_chosen : Int32} {h_kept : Int32} {h_worst : Int32} {h_best : Int32} {h_worstRuns : Int32} {h_worstChoices : Int32} {h_ends : Int32} {h_bound : Int32} {h_under : Int32} {h_back : Int32} {b_sorts : Nat → Int32} {b_lows : Nat → Int32} {b_highs : Nat → Int32} {b_firsts : Nat → Int32} {b_seconds : Nat → Int32} {b_stack : Nat → Int32} {b_pathsOf : Nat → Int32} {b_lengthOf : Nat → Int32} {b_choicesOf : Nat → Int32} {b_todo : Nat → Int32} {b_cache : Nat → Int32} {b_path : Nat → Int32} {b_tops : Nat → Int32} {b_missed : Nat → Int32} {b_struck : Nat → Int32} {b_worstPath : Nat → Int32} {b_mostMissed : Nat → Int32} {b_mostStruck : Nat → Int32} {b_leastMissed : Nat → Int32} {b_held : Nat → Int32} {b_contents : Nat → Int64} {b_ages : Nat → Int32} {b_phase : Nat → Int32} {b_node : Nat → Int32} {b_sum : Nat → Int32} {b_saved : Nat → Int32} {b_greatest : Nat → Int32} {b_met : Nat → Int32} {b_unsure : Nat → Int32} {Q : Int32 → Prop} {j sz : Nat} (hj : j < 2 ^ 31) (hs : sz ≤ 18) (hsz : h_size = nI sz) (h : j < sz → ¬ b_sorts j = 0) (H : Q 1) : wpY_noAccess Q (h_sets, h_places, h_made, h_depth, h_size, h_open, h_time, h_chosen, h_kept, h_worst, h_best, h_worstRuns, h_worstChoices, h_ends, h_bound, h_under, h_back, b_sorts, b_lows, b_highs, b_firsts, b_seconds, b_stack, b_pathsOf, b_lengthOf, b_choicesOf, b_todo, b_cache, b_path, b_tops, b_missed, b_struck, b_worstPath, b_mostMissed, b_mostStruck, b_leastMissed, b_held, b_contents, b_ages, b_phase, b_node, b_sum, b_saved, b_greatest, b_met, b_unsure) (nI j) := by
  subst hsz
  refine br_f (nI_pos hj) ?_
  by_cases z : j < sz
  · have c : (nI j).toNatClampNeg = j := nI_clamp (by omega)
    refine br_f (nI_ge z (by omega)) ⟨vp_in_nI (by omega) (by omega), ?_⟩
    rw [c]
    exact br_f (h z) H
  · exact br_t (nI_le (by omega) hj) H
theorem yi_yes {h_sets : Int32} {h_places : Int32} {h_made : Int32} {h_depth : Int32} {h_size : Int32} {h_open : Int32} {h_time : Int32} {h_chosen : Int32} {h_kept : Int32} {h_worst : Int32} {h_best : Int32} {h_worstRuns : Int32} {h_worstChoices : Int32} {h_ends : Int32} {h_bound : Int32} {h_under : Int32} {h_back : Int32} {b_sorts : Nat → Int32} {b_lows : Nat → Int32} {b_highs : Nat → Int32} {b_firsts : Nat → Int32} {b_seconds : Nat → Int32} {b_stack : Nat → Int32} {b_pathsOf : Nat → Int32} {b_lengthOf : Nat → Int32} {b_choicesOf : Nat → Int32} {b_todo : Nat → Int32} {b_cache : Nat → Int32} {b_path : Nat → Int32} {b_tops : Nat → Int32} {b_missed : Nat → Int32} {b_struck : Nat → Int32} {b_worstPath : Nat → Int32} {b_mostMissed : Nat → Int32} {b_mostStruck : Nat → Int32} {b_leastMissed : Nat → Int32} {b_held : Nat → Int32} {b_contents : Nat → Int64} {b_ages : Nat → Int32} {b_phase : Nat → Int32} {b_node : Nat → Int32} {b_sum : Nat → Int32} {b_saved : Nat → Int32} {b_greatest : Nat → Int32} {b_met : Nat → Int32} {b_unsure : Nat → Int32} {Q : Int32 → Prop} {j sz : Nat} (hs : sz ≤ 18) (hsz : h_size = nI sz) (z : j < sz) (h : b_sorts j = 0) (H : Q 0) : wpY_noAccess Q (h_sets, h_places, h_made, h_depth, h_size, h_open, h_time, h_chosen, h_kept, h_worst, h_best, h_worstRuns, h_worstChoices, h_ends, h_bound, h_under, h_back, b_sorts, b_lows, b_highs, b_firsts, b_seconds, b_stack, b_pathsOf, b_lengthOf, b_choicesOf, b_todo, b_cache, b_path, b_tops, b_missed, b_struck, b_worstPath, b_mostMissed, b_mostStruck, b_leastMissed, b_held, b_contents, b_ages, b_phase, b_node, b_sum, b_saved, b_greatest, b_met, b_unsure) (nI j) := by
  subst hsz
  have c : (nI j).toNatClampNeg = j := nI_clamp (by omega)
  refine br_f (nI_pos (by omega)) (br_f (nI_ge z (by omega)) ⟨vp_in_nI (by omega) (by omega), ?_⟩)
  rw [c]
  exact br_t h H
theorem rw_W {wt xc yc yw : Int32} {xp yp : Nat → Int32} {z : Nat} (h : nt_W wt xc yc yw xp yp) (hz : z ≤ 200000) (e : wt = nI z) : xc = yc ∧ ∃ wc, wc ≤ 20 ∧ yw = nI wc ∧ ∀ k, k < 20 → (k < wc → xp k = yp k) ∧ (¬ k < wc → xp k = -4) := by
  rcases h with y | y
  · exfalso
    rw [e] at y
    have := congrArg Int32.toInt y
    rw [nI_toInt (by omega)] at this
    have h2 : (-1 : Int32).toInt = -1 := by decide
    omega
  · exact y
theorem i_vc_depth {k : Nat} {u : SX} {v : SY} (I : i_Rel k u v) (hk : k + 3 ≤ 1538) : wpX_depth (fun r => wpY_depth (fun r' => r' = r ∧ i_Rel (k + 3) u v) v) u := by
  obtain ⟨f_setBits, f_placeCount, f_made, f_height, f_pathCount, f_greatestLength, f_worstTime, f_bestTime, f_worstCount, f_programBound, f_endingCount, f_chosen, f_time, a_kind, a_first, a_second, a_low, a_high, a_parent, a_pathsOf, a_lengthOf, a_choicesOf, a_stack, a_worstPath, a_sureness, a_mostMisses, a_mostHits, a_leastMisses, a_endings, a_runsHolding, a_rounds, a_path, a_pathTop, a_cache, a_runMisses, a_runHits, a_table, a_before, a_behind⟩ := u
  obtain ⟨h_sets, h_places, h_made, h_depth, h_size, h_open, h_time, h_chosen, h_kept, h_worst, h_best, h_worstRuns, h_worstChoices, h_ends, h_bound, h_under, h_back, b_sorts, b_lows, b_highs, b_firsts, b_seconds, b_stack, b_pathsOf, b_lengthOf, b_choicesOf, b_todo, b_cache, b_path, b_tops, b_missed, b_struck, b_worstPath, b_mostMissed, b_mostStruck, b_leastMissed, b_held, b_contents, b_ages, b_phase, b_node, b_sum, b_saved, b_greatest, b_met, b_unsure⟩ := v
  have I2 := I
  obtain ⟨w, s, C, ⟨g, sk, ma, he, b1, b2, b3, b4, b5, b6, -⟩, A⟩ := I2
  exact ⟨by rw [b5, b6], I⟩
theorem i_vc_paths {k : Nat} {u : SX} {v : SY} (I : i_Rel k u v) (hk : k + 3 ≤ 1538) : wpX_paths (fun r => wpY_paths (fun r' => r' = r ∧ i_Rel (k + 3) u v) v) u := by
  obtain ⟨f_setBits, f_placeCount, f_made, f_height, f_pathCount, f_greatestLength, f_worstTime, f_bestTime, f_worstCount, f_programBound, f_endingCount, f_chosen, f_time, a_kind, a_first, a_second, a_low, a_high, a_parent, a_pathsOf, a_lengthOf, a_choicesOf, a_stack, a_worstPath, a_sureness, a_mostMisses, a_mostHits, a_leastMisses, a_endings, a_runsHolding, a_rounds, a_path, a_pathTop, a_cache, a_runMisses, a_runHits, a_table, a_before, a_behind⟩ := u
  obtain ⟨h_sets, h_places, h_made, h_depth, h_size, h_open, h_time, h_chosen, h_kept, h_worst, h_best, h_worstRuns, h_worstChoices, h_ends, h_bound, h_under, h_back, b_sorts, b_lows, b_highs, b_firsts, b_seconds, b_stack, b_pathsOf, b_lengthOf, b_choicesOf, b_todo, b_cache, b_path, b_tops, b_missed, b_struck, b_worstPath, b_mostMissed, b_mostStruck, b_leastMissed, b_held, b_contents, b_ages, b_phase, b_node, b_sum, b_saved, b_greatest, b_met, b_unsure⟩ := v
  have I2 := I
  obtain ⟨w, s, C, B, gp, sz, en, h1, h2, h3, h4, h5, -⟩ := I2
  have e : h_size - 1 = nI (sz - 1) := by
    obtain ⟨q, rfl⟩ : ∃ q, sz = q + 1 := ⟨sz - 1, by omega⟩
    rw [h3]; exact nI_pred q
  have c : (h_size - 1).toNatClampNeg = sz - 1 := by rw [e]; exact nI_clamp (by omega)
  exact And.intro (by rw [e]; exact vp_in_nI (by omega) (by omega)) ⟨by rw [c, h4], I⟩
theorem i_vc_length {k : Nat} {u : SX} {v : SY} (I : i_Rel k u v) (hk : k + 3 ≤ 1538) : wpX_length (fun r => wpY_length (fun r' => r' = r ∧ i_Rel (k + 3) u v) v) u := by
  obtain ⟨f_setBits, f_placeCount, f_made, f_height, f_pathCount, f_greatestLength, f_worstTime, f_bestTime, f_worstCount, f_programBound, f_endingCount, f_chosen, f_time, a_kind, a_first, a_second, a_low, a_high, a_parent, a_pathsOf, a_lengthOf, a_choicesOf, a_stack, a_worstPath, a_sureness, a_mostMisses, a_mostHits, a_leastMisses, a_endings, a_runsHolding, a_rounds, a_path, a_pathTop, a_cache, a_runMisses, a_runHits, a_table, a_before, a_behind⟩ := u
  obtain ⟨h_sets, h_places, h_made, h_depth, h_size, h_open, h_time, h_chosen, h_kept, h_worst, h_best, h_worstRuns, h_worstChoices, h_ends, h_bound, h_under, h_back, b_sorts, b_lows, b_highs, b_firsts, b_seconds, b_stack, b_pathsOf, b_lengthOf, b_choicesOf, b_todo, b_cache, b_path, b_tops, b_missed, b_struck, b_worstPath, b_mostMissed, b_mostStruck, b_leastMissed, b_held, b_contents, b_ages, b_phase, b_node, b_sum, b_saved, b_greatest, b_met, b_unsure⟩ := v
  have I2 := I
  obtain ⟨w, s, C, B, gp, sz, en, h1, h2, h3, h4, h5, -⟩ := I2
  have e : h_size - 1 = nI (sz - 1) := by
    obtain ⟨q, rfl⟩ : ∃ q, sz = q + 1 := ⟨sz - 1, by omega⟩
    rw [h3]; exact nI_pred q
  have c : (h_size - 1).toNatClampNeg = sz - 1 := by rw [e]; exact nI_clamp (by omega)
  exact And.intro (by rw [e]; exact vp_in_nI (by omega) (by omega)) ⟨by rw [c, h5], I⟩
theorem i_vc_worst {k : Nat} {u : SX} {v : SY} (I : i_Rel k u v) (hk : k + 3 ≤ 1538) : wpX_worst (fun r => wpY_worst (fun r' => r' = r ∧ i_Rel (k + 3) u v) v) u := by
  obtain ⟨f_setBits, f_placeCount, f_made, f_height, f_pathCount, f_greatestLength, f_worstTime, f_bestTime, f_worstCount, f_programBound, f_endingCount, f_chosen, f_time, a_kind, a_first, a_second, a_low, a_high, a_parent, a_pathsOf, a_lengthOf, a_choicesOf, a_stack, a_worstPath, a_sureness, a_mostMisses, a_mostHits, a_leastMisses, a_endings, a_runsHolding, a_rounds, a_path, a_pathTop, a_cache, a_runMisses, a_runHits, a_table, a_before, a_behind⟩ := u
  obtain ⟨h_sets, h_places, h_made, h_depth, h_size, h_open, h_time, h_chosen, h_kept, h_worst, h_best, h_worstRuns, h_worstChoices, h_ends, h_bound, h_under, h_back, b_sorts, b_lows, b_highs, b_firsts, b_seconds, b_stack, b_pathsOf, b_lengthOf, b_choicesOf, b_todo, b_cache, b_path, b_tops, b_missed, b_struck, b_worstPath, b_mostMissed, b_mostStruck, b_leastMissed, b_held, b_contents, b_ages, b_phase, b_node, b_sum, b_saved, b_greatest, b_met, b_unsure⟩ := v
  have I2 := I
  obtain ⟨w, s, C, B, gp, sz, en, h1, h2, h3, h4, h5, h6, h7, ⟨n1, n2, n3, n4, n5, n6, n7, n8, n9, n10, n11⟩, ⟨z, z1, z2⟩, h9⟩ := I2
  have W := rw_W n3 z1 z2
  exact ⟨n1.symm, I⟩
theorem i_vc_best {k : Nat} {u : SX} {v : SY} (I : i_Rel k u v) (hk : k + 3 ≤ 1538) : wpX_best (fun r => wpY_best (fun r' => r' = r ∧ i_Rel (k + 3) u v) v) u := by
  obtain ⟨f_setBits, f_placeCount, f_made, f_height, f_pathCount, f_greatestLength, f_worstTime, f_bestTime, f_worstCount, f_programBound, f_endingCount, f_chosen, f_time, a_kind, a_first, a_second, a_low, a_high, a_parent, a_pathsOf, a_lengthOf, a_choicesOf, a_stack, a_worstPath, a_sureness, a_mostMisses, a_mostHits, a_leastMisses, a_endings, a_runsHolding, a_rounds, a_path, a_pathTop, a_cache, a_runMisses, a_runHits, a_table, a_before, a_behind⟩ := u
  obtain ⟨h_sets, h_places, h_made, h_depth, h_size, h_open, h_time, h_chosen, h_kept, h_worst, h_best, h_worstRuns, h_worstChoices, h_ends, h_bound, h_under, h_back, b_sorts, b_lows, b_highs, b_firsts, b_seconds, b_stack, b_pathsOf, b_lengthOf, b_choicesOf, b_todo, b_cache, b_path, b_tops, b_missed, b_struck, b_worstPath, b_mostMissed, b_mostStruck, b_leastMissed, b_held, b_contents, b_ages, b_phase, b_node, b_sum, b_saved, b_greatest, b_met, b_unsure⟩ := v
  have I2 := I
  obtain ⟨w, s, C, B, gp, sz, en, h1, h2, h3, h4, h5, h6, h7, ⟨n1, n2, n3, n4, n5, n6, n7, n8, n9, n10, n11⟩, ⟨z, z1, z2⟩, h9⟩ := I2
  have W := rw_W n3 z1 z2
  exact ⟨n2.symm, I⟩
theorem i_vc_worstRuns {k : Nat} {u : SX} {v : SY} (I : i_Rel k u v) (hk : k + 3 ≤ 1538) : wpX_worstRuns (fun r => wpY_worstRuns (fun r' => r' = r ∧ i_Rel (k + 3) u v) v) u := by
  obtain ⟨f_setBits, f_placeCount, f_made, f_height, f_pathCount, f_greatestLength, f_worstTime, f_bestTime, f_worstCount, f_programBound, f_endingCount, f_chosen, f_time, a_kind, a_first, a_second, a_low, a_high, a_parent, a_pathsOf, a_lengthOf, a_choicesOf, a_stack, a_worstPath, a_sureness, a_mostMisses, a_mostHits, a_leastMisses, a_endings, a_runsHolding, a_rounds, a_path, a_pathTop, a_cache, a_runMisses, a_runHits, a_table, a_before, a_behind⟩ := u
  obtain ⟨h_sets, h_places, h_made, h_depth, h_size, h_open, h_time, h_chosen, h_kept, h_worst, h_best, h_worstRuns, h_worstChoices, h_ends, h_bound, h_under, h_back, b_sorts, b_lows, b_highs, b_firsts, b_seconds, b_stack, b_pathsOf, b_lengthOf, b_choicesOf, b_todo, b_cache, b_path, b_tops, b_missed, b_struck, b_worstPath, b_mostMissed, b_mostStruck, b_leastMissed, b_held, b_contents, b_ages, b_phase, b_node, b_sum, b_saved, b_greatest, b_met, b_unsure⟩ := v
  have I2 := I
  obtain ⟨w, s, C, B, gp, sz, en, h1, h2, h3, h4, h5, h6, h7, ⟨n1, n2, n3, n4, n5, n6, n7, n8, n9, n10, n11⟩, ⟨z, z1, z2⟩, h9⟩ := I2
  have W := rw_W n3 z1 z2
  exact ⟨W.1.symm, I⟩
theorem i_vc_bound {k : Nat} {u : SX} {v : SY} (I : i_Rel k u v) (hk : k + 3 ≤ 1538) : wpX_bound (fun r => wpY_bound (fun r' => r' = r ∧ i_Rel (k + 3) u v) v) u := by
  obtain ⟨f_setBits, f_placeCount, f_made, f_height, f_pathCount, f_greatestLength, f_worstTime, f_bestTime, f_worstCount, f_programBound, f_endingCount, f_chosen, f_time, a_kind, a_first, a_second, a_low, a_high, a_parent, a_pathsOf, a_lengthOf, a_choicesOf, a_stack, a_worstPath, a_sureness, a_mostMisses, a_mostHits, a_leastMisses, a_endings, a_runsHolding, a_rounds, a_path, a_pathTop, a_cache, a_runMisses, a_runHits, a_table, a_before, a_behind⟩ := u
  obtain ⟨h_sets, h_places, h_made, h_depth, h_size, h_open, h_time, h_chosen, h_kept, h_worst, h_best, h_worstRuns, h_worstChoices, h_ends, h_bound, h_under, h_back, b_sorts, b_lows, b_highs, b_firsts, b_seconds, b_stack, b_pathsOf, b_lengthOf, b_choicesOf, b_todo, b_cache, b_path, b_tops, b_missed, b_struck, b_worstPath, b_mostMissed, b_mostStruck, b_leastMissed, b_held, b_contents, b_ages, b_phase, b_node, b_sum, b_saved, b_greatest, b_met, b_unsure⟩ := v
  have I2 := I
  obtain ⟨w, s, C, B, gp, sz, en, h1, h2, h3, h4, h5, h6, h7, ⟨n1, n2, n3, n4, n5, n6, n7, n8, n9, n10, n11⟩, ⟨z, z1, z2⟩, h9⟩ := I2
  have W := rw_W n3 z1 z2
  exact ⟨h6.symm, I⟩
theorem i_vc_ends {k : Nat} {u : SX} {v : SY} (I : i_Rel k u v) (hk : k + 3 ≤ 1538) : wpX_ends (fun r => wpY_ends (fun r' => r' = r ∧ i_Rel (k + 3) u v) v) u := by
  obtain ⟨f_setBits, f_placeCount, f_made, f_height, f_pathCount, f_greatestLength, f_worstTime, f_bestTime, f_worstCount, f_programBound, f_endingCount, f_chosen, f_time, a_kind, a_first, a_second, a_low, a_high, a_parent, a_pathsOf, a_lengthOf, a_choicesOf, a_stack, a_worstPath, a_sureness, a_mostMisses, a_mostHits, a_leastMisses, a_endings, a_runsHolding, a_rounds, a_path, a_pathTop, a_cache, a_runMisses, a_runHits, a_table, a_before, a_behind⟩ := u
  obtain ⟨h_sets, h_places, h_made, h_depth, h_size, h_open, h_time, h_chosen, h_kept, h_worst, h_best, h_worstRuns, h_worstChoices, h_ends, h_bound, h_under, h_back, b_sorts, b_lows, b_highs, b_firsts, b_seconds, b_stack, b_pathsOf, b_lengthOf, b_choicesOf, b_todo, b_cache, b_path, b_tops, b_missed, b_struck, b_worstPath, b_mostMissed, b_mostStruck, b_leastMissed, b_held, b_contents, b_ages, b_phase, b_node, b_sum, b_saved, b_greatest, b_met, b_unsure⟩ := v
  have I2 := I
  obtain ⟨w, s, C, B, gp, sz, en, h1, h2, h3, h4, h5, h6, h7, ⟨n1, n2, n3, n4, n5, n6, n7, n8, n9, n10, n11⟩, ⟨z, z1, z2⟩, h9⟩ := I2
  have W := rw_W n3 z1 z2
  exact ⟨by rw [n8, n9], I⟩
theorem i_vc_choice {k : Nat} {u : SX} {v : SY} (I : i_Rel k u v) (hk : k + 3 ≤ 1538) (v1 : Int32) : wpX_choice (fun r => wpY_choice (fun r' => r' = r ∧ i_Rel (k + 3) u v) v v1) u v1 := by
  obtain ⟨f_setBits, f_placeCount, f_made, f_height, f_pathCount, f_greatestLength, f_worstTime, f_bestTime, f_worstCount, f_programBound, f_endingCount, f_chosen, f_time, a_kind, a_first, a_second, a_low, a_high, a_parent, a_pathsOf, a_lengthOf, a_choicesOf, a_stack, a_worstPath, a_sureness, a_mostMisses, a_mostHits, a_leastMisses, a_endings, a_runsHolding, a_rounds, a_path, a_pathTop, a_cache, a_runMisses, a_runHits, a_table, a_before, a_behind⟩ := u
  obtain ⟨h_sets, h_places, h_made, h_depth, h_size, h_open, h_time, h_chosen, h_kept, h_worst, h_best, h_worstRuns, h_worstChoices, h_ends, h_bound, h_under, h_back, b_sorts, b_lows, b_highs, b_firsts, b_seconds, b_stack, b_pathsOf, b_lengthOf, b_choicesOf, b_todo, b_cache, b_path, b_tops, b_missed, b_struck, b_worstPath, b_mostMissed, b_mostStruck, b_leastMissed, b_held, b_contents, b_ages, b_phase, b_node, b_sum, b_saved, b_greatest, b_met, b_unsure⟩ := v
  have I2 := I
  obtain ⟨w, s, C, B, gp, sz, en, h1, h2, h3, h4, h5, h6, h7, ⟨n1, n2, n3, n4, n5, n6, n7, n8, n9, n10, n11⟩, ⟨z, z1, z2⟩, h9⟩ := I2
  obtain ⟨-, wc, w1, w2, w3⟩ := rw_W n3 z1 z2
  subst w2
  by_cases h : v1 < 0
  · exact br_t h (br_t h ⟨rfl, I⟩)
  · obtain ⟨j, hj, rfl⟩ := nI_of h
    have c : (nI j).toNatClampNeg = j := nI_clamp hj
    by_cases y : j < 20
    · obtain ⟨q1, q2⟩ := w3 j y
      refine br_f h (br_t (nI_lt (b := 20) y (by omega)) ⟨vp_in_nI y (by omega), ?_⟩)
      refine br_f h ?_
      rw [c]
      by_cases x : j < wc
      · exact br_t (nI_lt x (by omega)) ⟨vp_in_nI (by omega) (by omega), (q1 x).symm, I⟩
      · exact br_f (nI_nlt (by omega) (by omega)) ⟨(q2 x).symm, I⟩
    · refine br_f h (br_f (nI_nlt (b := 20) (by omega) (by omega)) (br_f h ?_))
      exact br_f (nI_nlt (by omega) (by omega)) ⟨rfl, I⟩
theorem i_vc_holds {k : Nat} {u : SX} {v : SY} (I : i_Rel k u v) (hk : k + 3 ≤ 1538) (v1 : Int32) : wpX_holds (fun r => wpY_holds (fun r' => r' = r ∧ i_Rel (k + 3) u v) v v1) u v1 := by
  obtain ⟨f_setBits, f_placeCount, f_made, f_height, f_pathCount, f_greatestLength, f_worstTime, f_bestTime, f_worstCount, f_programBound, f_endingCount, f_chosen, f_time, a_kind, a_first, a_second, a_low, a_high, a_parent, a_pathsOf, a_lengthOf, a_choicesOf, a_stack, a_worstPath, a_sureness, a_mostMisses, a_mostHits, a_leastMisses, a_endings, a_runsHolding, a_rounds, a_path, a_pathTop, a_cache, a_runMisses, a_runHits, a_table, a_before, a_behind⟩ := u
  obtain ⟨h_sets, h_places, h_made, h_depth, h_size, h_open, h_time, h_chosen, h_kept, h_worst, h_best, h_worstRuns, h_worstChoices, h_ends, h_bound, h_under, h_back, b_sorts, b_lows, b_highs, b_firsts, b_seconds, b_stack, b_pathsOf, b_lengthOf, b_choicesOf, b_todo, b_cache, b_path, b_tops, b_missed, b_struck, b_worstPath, b_mostMissed, b_mostStruck, b_leastMissed, b_held, b_contents, b_ages, b_phase, b_node, b_sum, b_saved, b_greatest, b_met, b_unsure⟩ := v
  have I2 := I
  obtain ⟨w, s, C, B, gp, sz, en, h1, h2, h3, h4, h5, h6, h7, ⟨n1, n2, n3, n4, n5, n6, n7, n8, n9, n10, n11⟩, ⟨z, z1, z2⟩, h9⟩ := I2
  by_cases h : v1 < 0
  · exact br_t h (br_t h ⟨rfl, I⟩)
  · obtain ⟨j, hj, rfl⟩ := nI_of h
    have c : (nI j).toNatClampNeg = j := nI_clamp hj
    by_cases y : j < 12
    · refine br_f h (br_t (nI_lt (b := 12) y (by omega)) ⟨vp_in_nI y (by omega), ?_⟩)
      refine br_f h (br_t (nI_le (b := 11) (by omega) (by omega)) ⟨vp_in_nI y (by omega), ?_⟩)
      rw [c]
      exact ⟨(n11 j y).symm, I⟩
    · exact br_f h (br_f (nI_nlt (b := 12) (by omega) (by omega)) (br_f h (br_f (nI_ge (a := 11) (by omega) (by omega)) ⟨rfl, I⟩)))
theorem i_vc_misses {k : Nat} {u : SX} {v : SY} (I : i_Rel k u v) (hk : k + 3 ≤ 1538) (v1 : Int32) : wpX_misses (fun r => wpY_misses (fun r' => r' = r ∧ i_Rel (k + 3) u v) v v1) u v1 := by
  obtain ⟨f_setBits, f_placeCount, f_made, f_height, f_pathCount, f_greatestLength, f_worstTime, f_bestTime, f_worstCount, f_programBound, f_endingCount, f_chosen, f_time, a_kind, a_first, a_second, a_low, a_high, a_parent, a_pathsOf, a_lengthOf, a_choicesOf, a_stack, a_worstPath, a_sureness, a_mostMisses, a_mostHits, a_leastMisses, a_endings, a_runsHolding, a_rounds, a_path, a_pathTop, a_cache, a_runMisses, a_runHits, a_table, a_before, a_behind⟩ := u
  obtain ⟨h_sets, h_places, h_made, h_depth, h_size, h_open, h_time, h_chosen, h_kept, h_worst, h_best, h_worstRuns, h_worstChoices, h_ends, h_bound, h_under, h_back, b_sorts, b_lows, b_highs, b_firsts, b_seconds, b_stack, b_pathsOf, b_lengthOf, b_choicesOf, b_todo, b_cache, b_path, b_tops, b_missed, b_struck, b_worstPath, b_mostMissed, b_mostStruck, b_leastMissed, b_held, b_contents, b_ages, b_phase, b_node, b_sum, b_saved, b_greatest, b_met, b_unsure⟩ := v
  have I2 := I
  obtain ⟨w, s, C, B, gp, sz, en, h1, h2, h3, h4, h5, h6, h7, ⟨n1, n2, n3, n4, n5, n6, n7, n8, n9, n10, n11⟩, ⟨z, z1, z2⟩, h9⟩ := I2
  have one : ¬ (1 : Int32) = 0 := by decide
  unfold wpX_misses wpY_misses
  by_cases h : v1 < 0
  · refine xi_no (Or.inl h) (br_t rfl ?_)
    exact yi_neg h (br_f one ⟨rfl, I⟩)
  · obtain ⟨j, hj, rfl⟩ := nI_of h
    by_cases hj18 : j < 18
    · have c : (nI j).toNatClampNeg = j := nI_clamp hj
      have i18 : vp_in (nI j) 18 := vp_in_nI hj18 (by omega)
      refine xi_yes hj18 (br_f one ⟨i18, ?_⟩)
      by_cases yx : j < sz ∧ gp 0 j = 0
      · obtain ⟨y, x⟩ := yx
        refine yi_yes h2 h3 y (by rw [(h7 j y).1, x]; rfl) (br_t rfl ⟨i18, ?_⟩)
        rw [c]
        exact ⟨((n5 j hj18).1 ⟨y, x⟩).symm, I⟩
      · refine yi_no hj h2 h3 (fun y e => yx ⟨y, ?_⟩) (br_f one ?_)
        · rw [(h7 j y).1] at e
          exact (nI_eq (b := 0) (by have := (h7 j y).2; omega) (by omega)).mp e
        · rw [c]
          exact ⟨((n5 j hj18).2 yx).symm, I⟩
    · refine xi_no (Or.inr (nI_le (a := 18) (by omega) hj)) (br_t rfl ?_)
      exact yi_no hj h2 h3 (fun y => by omega) (br_f one ⟨rfl, I⟩)
theorem i_vc_hits {k : Nat} {u : SX} {v : SY} (I : i_Rel k u v) (hk : k + 3 ≤ 1538) (v1 : Int32) : wpX_hits (fun r => wpY_hits (fun r' => r' = r ∧ i_Rel (k + 3) u v) v v1) u v1 := by
  obtain ⟨f_setBits, f_placeCount, f_made, f_height, f_pathCount, f_greatestLength, f_worstTime, f_bestTime, f_worstCount, f_programBound, f_endingCount, f_chosen, f_time, a_kind, a_first, a_second, a_low, a_high, a_parent, a_pathsOf, a_lengthOf, a_choicesOf, a_stack, a_worstPath, a_sureness, a_mostMisses, a_mostHits, a_leastMisses, a_endings, a_runsHolding, a_rounds, a_path, a_pathTop, a_cache, a_runMisses, a_runHits, a_table, a_before, a_behind⟩ := u
  obtain ⟨h_sets, h_places, h_made, h_depth, h_size, h_open, h_time, h_chosen, h_kept, h_worst, h_best, h_worstRuns, h_worstChoices, h_ends, h_bound, h_under, h_back, b_sorts, b_lows, b_highs, b_firsts, b_seconds, b_stack, b_pathsOf, b_lengthOf, b_choicesOf, b_todo, b_cache, b_path, b_tops, b_missed, b_struck, b_worstPath, b_mostMissed, b_mostStruck, b_leastMissed, b_held, b_contents, b_ages, b_phase, b_node, b_sum, b_saved, b_greatest, b_met, b_unsure⟩ := v
  have I2 := I
  obtain ⟨w, s, C, B, gp, sz, en, h1, h2, h3, h4, h5, h6, h7, ⟨n1, n2, n3, n4, n5, n6, n7, n8, n9, n10, n11⟩, ⟨z, z1, z2⟩, h9⟩ := I2
  have one : ¬ (1 : Int32) = 0 := by decide
  unfold wpX_hits wpY_hits
  by_cases h : v1 < 0
  · refine xi_no (Or.inl h) (br_t rfl ?_)
    exact yi_neg h (br_f one ⟨rfl, I⟩)
  · obtain ⟨j, hj, rfl⟩ := nI_of h
    by_cases hj18 : j < 18
    · have c : (nI j).toNatClampNeg = j := nI_clamp hj
      have i18 : vp_in (nI j) 18 := vp_in_nI hj18 (by omega)
      refine xi_yes hj18 (br_f one ⟨i18, ?_⟩)
      by_cases yx : j < sz ∧ gp 0 j = 0
      · obtain ⟨y, x⟩ := yx
        refine yi_yes h2 h3 y (by rw [(h7 j y).1, x]; rfl) (br_t rfl ⟨i18, ?_⟩)
        rw [c]
        exact ⟨((n6 j hj18).1 ⟨y, x⟩).symm, I⟩
      · refine yi_no hj h2 h3 (fun y e => yx ⟨y, ?_⟩) (br_f one ?_)
        · rw [(h7 j y).1] at e
          exact (nI_eq (b := 0) (by have := (h7 j y).2; omega) (by omega)).mp e
        · rw [c]
          exact ⟨((n6 j hj18).2 yx).symm, I⟩
    · refine xi_no (Or.inr (nI_le (a := 18) (by omega) hj)) (br_t rfl ?_)
      exact yi_no hj h2 h3 (fun y => by omega) (br_f one ⟨rfl, I⟩)
theorem i_vc_fewest {k : Nat} {u : SX} {v : SY} (I : i_Rel k u v) (hk : k + 3 ≤ 1538) (v1 : Int32) : wpX_fewest (fun r => wpY_fewest (fun r' => r' = r ∧ i_Rel (k + 3) u v) v v1) u v1 := by
  obtain ⟨f_setBits, f_placeCount, f_made, f_height, f_pathCount, f_greatestLength, f_worstTime, f_bestTime, f_worstCount, f_programBound, f_endingCount, f_chosen, f_time, a_kind, a_first, a_second, a_low, a_high, a_parent, a_pathsOf, a_lengthOf, a_choicesOf, a_stack, a_worstPath, a_sureness, a_mostMisses, a_mostHits, a_leastMisses, a_endings, a_runsHolding, a_rounds, a_path, a_pathTop, a_cache, a_runMisses, a_runHits, a_table, a_before, a_behind⟩ := u
  obtain ⟨h_sets, h_places, h_made, h_depth, h_size, h_open, h_time, h_chosen, h_kept, h_worst, h_best, h_worstRuns, h_worstChoices, h_ends, h_bound, h_under, h_back, b_sorts, b_lows, b_highs, b_firsts, b_seconds, b_stack, b_pathsOf, b_lengthOf, b_choicesOf, b_todo, b_cache, b_path, b_tops, b_missed, b_struck, b_worstPath, b_mostMissed, b_mostStruck, b_leastMissed, b_held, b_contents, b_ages, b_phase, b_node, b_sum, b_saved, b_greatest, b_met, b_unsure⟩ := v
  have I2 := I
  obtain ⟨w, s, C, B, gp, sz, en, h1, h2, h3, h4, h5, h6, h7, ⟨n1, n2, n3, n4, n5, n6, n7, n8, n9, n10, n11⟩, ⟨z, z1, z2⟩, h9⟩ := I2
  have one : ¬ (1 : Int32) = 0 := by decide
  unfold wpX_fewest wpY_fewest
  by_cases h : v1 < 0
  · refine xi_no (Or.inl h) (br_t rfl ?_)
    exact yi_neg h (br_f one ⟨rfl, I⟩)
  · obtain ⟨j, hj, rfl⟩ := nI_of h
    by_cases hj18 : j < 18
    · have c : (nI j).toNatClampNeg = j := nI_clamp hj
      have i18 : vp_in (nI j) 18 := vp_in_nI hj18 (by omega)
      refine xi_yes hj18 (br_f one ⟨i18, ?_⟩)
      by_cases yx : j < sz ∧ gp 0 j = 0
      · obtain ⟨y, x⟩ := yx
        refine yi_yes h2 h3 y (by rw [(h7 j y).1, x]; rfl) (br_t rfl ⟨i18, ?_⟩)
        rw [c]
        exact ⟨((n7 j hj18).1 ⟨y, x⟩).symm, I⟩
      · refine yi_no hj h2 h3 (fun y e => yx ⟨y, ?_⟩) (br_f one ?_)
        · rw [(h7 j y).1] at e
          exact (nI_eq (b := 0) (by have := (h7 j y).2; omega) (by omega)).mp e
        · rw [c]
          exact ⟨((n7 j hj18).2 yx).symm, I⟩
    · refine xi_no (Or.inr (nI_le (a := 18) (by omega) hj)) (br_t rfl ?_)
      exact yi_no hj h2 h3 (fun y => by omega) (br_f one ⟨rfl, I⟩)
theorem i_vc_sure {k : Nat} {u : SX} {v : SY} (I : i_Rel k u v) (hk : k + 3 ≤ 1538) (v1 : Int32) : wpX_sure (fun r => wpY_sure (fun r' => r' = r ∧ i_Rel (k + 3) u v) v v1) u v1 := by
  obtain ⟨f_setBits, f_placeCount, f_made, f_height, f_pathCount, f_greatestLength, f_worstTime, f_bestTime, f_worstCount, f_programBound, f_endingCount, f_chosen, f_time, a_kind, a_first, a_second, a_low, a_high, a_parent, a_pathsOf, a_lengthOf, a_choicesOf, a_stack, a_worstPath, a_sureness, a_mostMisses, a_mostHits, a_leastMisses, a_endings, a_runsHolding, a_rounds, a_path, a_pathTop, a_cache, a_runMisses, a_runHits, a_table, a_before, a_behind⟩ := u
  obtain ⟨h_sets, h_places, h_made, h_depth, h_size, h_open, h_time, h_chosen, h_kept, h_worst, h_best, h_worstRuns, h_worstChoices, h_ends, h_bound, h_under, h_back, b_sorts, b_lows, b_highs, b_firsts, b_seconds, b_stack, b_pathsOf, b_lengthOf, b_choicesOf, b_todo, b_cache, b_path, b_tops, b_missed, b_struck, b_worstPath, b_mostMissed, b_mostStruck, b_leastMissed, b_held, b_contents, b_ages, b_phase, b_node, b_sum, b_saved, b_greatest, b_met, b_unsure⟩ := v
  have I2 := I
  obtain ⟨w, s, C, B, gp, sz, en, h1, h2, h3, h4, h5, h6, h7, ⟨n1, n2, n3, n4, n5, n6, n7, n8, n9, n10, n11⟩, ⟨z, z1, z2⟩, h9⟩ := I2
  have one : ¬ (1 : Int32) = 0 := by decide
  unfold wpX_sure wpY_sure
  by_cases h : v1 < 0
  · refine xi_no (Or.inl h) (br_t rfl ?_)
    exact yi_neg h (br_f one ⟨rfl, I⟩)
  · obtain ⟨j, hj, rfl⟩ := nI_of h
    by_cases hj18 : j < 18
    · have c : (nI j).toNatClampNeg = j := nI_clamp hj
      have i18 : vp_in (nI j) 18 := vp_in_nI hj18 (by omega)
      refine xi_yes hj18 (br_f one ⟨i18, ?_⟩)
      by_cases yx : j < sz ∧ gp 0 j = 0
      · obtain ⟨y, x⟩ := yx
        refine yi_yes h2 h3 y (by rw [(h7 j y).1, x]; rfl) (br_t rfl ⟨i18, ?_⟩)
        have q := (h9 j hj18).1 ⟨y, x⟩
        rw [c]
        dsimp only at q
        refine br_c (fun m0 => ⟨by rw [q, if_pos m0], I⟩) (fun m0 => ⟨i18, br_c (fun u0 => ⟨by rw [q, if_neg m0, if_pos u0], I⟩) (fun u0 => ⟨by rw [q, if_neg m0, if_neg u0], I⟩)⟩)
      · refine yi_no hj h2 h3 (fun y e => yx ⟨y, ?_⟩) (br_f one ?_)
        · rw [(h7 j y).1] at e
          exact (nI_eq (b := 0) (by have := (h7 j y).2; omega) (by omega)).mp e
        · rw [c]
          exact ⟨((h9 j hj18).2 yx).symm, I⟩
    · refine xi_no (Or.inr (nI_le (a := 18) (by omega) hj)) (br_t rfl ?_)
      exact yi_no hj h2 h3 (fun y => by omega) (br_f one ⟨rfl, I⟩)
end
section
/-! the tables after each of the four ways to make a statement -/
theorem gv_0 {a0 a1 a2 a3 a4 a5 a6 a7 a8 a9 : Nat} : gv_v a0 a1 a2 a3 a4 a5 a6 a7 a8 a9 0 = a0 ∧ gv_v a0 a1 a2 a3 a4 a5 a6 a7 a8 a9 1 = a1 ∧ gv_v a0 a1 a2 a3 a4 a5 a6 a7 a8 a9 2 = a2 ∧ gv_v a0 a1 a2 a3 a4 a5 a6 a7 a8 a9 9 = a9 := ⟨rfl, rfl, rfl, rfl⟩
theorem bl_leaf {g : Nat → Nat → Nat} {sk : Nat → Nat} {ma : Nat} {ki fi se lo hi pa xp xl xc xs so yl yh yf ys yp yn yc yk : Nat → Int32} {he k v : Nat} (T : pg_t g ma) (S : sk_s g ma he sk) (hm : ma < 18) (St : ∀ i, i < he → xs i = nI (sk i) ∧ yk i = nI (sk i)) (XT : ∀ n, n < ma → xt_n g ki fi se lo hi pa n) (YT : ∀ n, n < ma → yt_n g 18 so yl yh yf ys n) (MX : ∀ n, n < ma → me_n g 0 xp xl xc n) (MY : ∀ n, n < ma → me_n g 18 yp yn yc n) (hk : (k = 0 ∧ v < 12) ∨ (k = 1 ∧ v ≤ 50)) :
    rl_B (nI (ma + 1)) (nI (he + 1)) (nI (ma + 1)) (nI (he + 1)) (upd ki ma (nI k)) (upd fi ma (nI v)) (upd se ma 0) (upd lo ma 0) (upd hi ma 0) pa (upd xp ma (nI 1)) (upd xl ma (nI 1)) (upd xc ma (nI 0)) (upd xs he (nI ma)) (upd so (18 + ma) (nI k)) (upd yl (18 + ma) (nI v)) (upd yh (18 + ma) 0) (upd yf (18 + ma) 0) (upd ys (18 + ma) 0) (upd yp (18 + ma) (nI 1)) (upd yn (18 + ma) (nI 1)) (upd yc (18 + ma) (nI 0)) (upd yk he (nI ma)) := by
  have k1 : k ≤ 1 := by omega
  refine nw_B (v := gv_v k v 0 0 0 1 1 0 1 ma) T S (Nat.le_refl _) hm St XT YT MX MY (pn_leaf hk) (fun h => ?_) (fun h => ?_) (fun h => ?_) ?_ (fun n hn => ?_) (fun x _ => rfl) ?_ (fun n hn => ?_) ?_ (fun n hn => ?_) ?_ (fun n hn => ?_)
  · exact S.2.2.2.1 h
  · rw [gv_0.1] at h; omega
  · rw [gv_0.1] at h; omega
  · unfold xt_n
    simp only [gh_m, gv_v, us_s]
    exact ⟨by trivial, by trivial, by trivial, by trivial, fun h => by omega, fun h => by omega⟩
  · simp only [us_n (show n ≠ ma by omega)]
    exact ⟨by trivial, by trivial, by trivial, by trivial, by trivial⟩
  · unfold yt_n
    simp only [gh_m, gv_v, us_s]
    exact ⟨by trivial, fun _ => by trivial, fun h => by omega, fun h => by omega, fun h => by omega⟩
  · simp only [us_n (show 18 + n ≠ 18 + ma by omega)]
    exact ⟨by trivial, by trivial, by trivial, by trivial, by trivial⟩
  · unfold me_n
    simp only [gh_m, gv_v, Nat.zero_add, us_s]
    exact ⟨rfl, rfl, rfl⟩
  · simp only [Nat.zero_add, us_n (show n ≠ ma by omega)]
    exact ⟨by trivial, by trivial, by trivial⟩
  · unfold me_n
    simp only [gh_m, gv_v, us_s]
    exact ⟨rfl, rfl, rfl⟩
  · simp only [us_n (show 18 + n ≠ 18 + ma by omega)]
    exact ⟨by trivial, by trivial, by trivial⟩
theorem bl_two {g : Nat → Nat → Nat} {sk : Nat → Nat} {ma : Nat} {ki fi se lo hi pa xp xl xc xs so yl yh yf ys yp yn yc yk : Nat → Int32} {b k hh P Ln Cn : Nat} {kI vp vl vc wp wl wc : Int32} (T : pg_t g ma) (S : sk_s g ma (b + 2) sk) (hm : ma < 18) (St : ∀ i, i < b + 2 → xs i = nI (sk i) ∧ yk i = nI (sk i)) (XT : ∀ n, n < ma → xt_n g ki fi se lo hi pa n) (YT : ∀ n, n < ma → yt_n g 18 so yl yh yf ys n) (MX : ∀ n, n < ma → me_n g 0 xp xl xc n) (MY : ∀ n, n < ma → me_n g 18 yp yn yc n)
    (hi' : Nat → Int32) (hk : k = 2 ∨ k = 3) (hkI : kI = nI k) (hh1 : hi' ma = nI hh) (hh2 : ∀ n, n < ma → hi' n = hi n)
    (N : pg_n (gh_n g ma (gv_v k (sk b) (sk (b + 1)) 0 hh P Ln Cn (1 + g 8 (sk b) + g 8 (sk (b + 1))) (g 9 (sk b)))) ma)
    (v1 : vp = nI (min P 1000)) (v2 : vl = nI (min Ln 1000)) (v3 : vc = nI (min Cn 1000)) (w1 : wp = nI (min P 1000)) (w2 : wl = nI (min Ln 1000)) (w3 : wc = nI (min Cn 1000)) :
    rl_B (nI (ma + 1)) (nI (b + 1)) (nI (ma + 1)) (nI (b + 1)) (upd ki ma kI) (upd fi ma (nI (sk b))) (upd se ma (nI (sk (b + 1)))) (upd lo ma 0) hi' (upd (upd pa (sk b) (nI ma)) (sk (b + 1)) (nI ma)) (upd xp ma vp) (upd xl ma vl) (upd xc ma vc) (upd xs b (nI ma)) (upd so (18 + ma) kI) (upd yl (18 + ma) 0) (upd yh (18 + ma) 0) (upd yf (18 + ma) (nI (sk b))) (upd ys (18 + ma) (nI (sk (b + 1)))) (upd (upd yp (18 + ma) 1) (18 + ma) wp) (upd (upd yn (18 + ma) 1) (18 + ma) wl) (upd (upd yc (18 + ma) 0) (18 + ma) wc) (upd yk b (nI ma)) := by
  subst hkI v1 v2 v3 w1 w2 w3
  have l1 := S.2.2.1 b (by omega)
  have l2 := S.2.2.1 (b + 1) (by omega)
  have l3 := S.2.2.2.2.2.1 b (b + 1) (by omega) (by omega)
  refine nw_B (v := gv_v k (sk b) (sk (b + 1)) 0 hh P Ln Cn (1 + g 8 (sk b) + g 8 (sk (b + 1))) (g 9 (sk b))) T S (by omega) hm St XT YT MX MY N (fun h => ?_) (fun h => ⟨b, Nat.le_refl _, by omega, rfl⟩) (fun h => ⟨b + 1, by omega, by omega, rfl⟩) ?_ (fun n hn => ?_) (fun x hx => ?_) ?_ (fun n hn => ?_) ?_ (fun n hn => ?_) ?_ (fun n hn => ?_)
  · have := S.2.2.2.2.1 (b - 1) (by omega)
    rw [show b - 1 + 1 = b by omega] at this
    exact this
  · unfold xt_n
    simp only [gh_m, gv_v, us_s, us_n (show sk b ≠ sk (b + 1) by omega)]
    exact ⟨by trivial, by trivial, by trivial, hh1, fun _ => by trivial, fun _ => ⟨by trivial, by trivial⟩⟩
  · simp only [us_n (show n ≠ ma by omega)]
    exact ⟨by trivial, by trivial, by trivial, by trivial, hh2 n hn⟩
  · rw [us_n (hx (b + 1) (by omega) (by omega)), us_n (hx b (by omega) (by omega))]
  · unfold yt_n
    simp only [gh_m, gv_v, us_s]
    exact ⟨by trivial, fun h => by omega, fun h => by trivial, fun h => by trivial, fun h => by omega⟩
  · simp only [us_n (show 18 + n ≠ 18 + ma by omega)]
    exact ⟨by trivial, by trivial, by trivial, by trivial, by trivial⟩
  · unfold me_n
    simp only [gh_m, gv_v, Nat.zero_add, us_s]
    exact ⟨by trivial, by trivial, by trivial⟩
  · simp only [Nat.zero_add, us_n (show n ≠ ma by omega)]
    exact ⟨by trivial, by trivial, by trivial⟩
  · unfold me_n
    simp only [gh_m, gv_v, us_s]
    exact ⟨by trivial, by trivial, by trivial⟩
  · simp only [us_n (show 18 + n ≠ 18 + ma by omega)]
    exact ⟨by trivial, by trivial, by trivial⟩
theorem bl_loop {g : Nat → Nat → Nat} {sk : Nat → Nat} {ma : Nat} {ki fi se lo hi pa xp xl xc xs so yl yh yf ys yp yn yc yk : Nat → Int32} {b l h P Ln Cn : Nat} {vp vl vc wp wl wc : Int32} (T : pg_t g ma) (S : sk_s g ma (b + 1) sk) (hm : ma < 18) (St : ∀ i, i < b + 1 → xs i = nI (sk i) ∧ yk i = nI (sk i)) (XT : ∀ n, n < ma → xt_n g ki fi se lo hi pa n) (YT : ∀ n, n < ma → yt_n g 18 so yl yh yf ys n) (MX : ∀ n, n < ma → me_n g 0 xp xl xc n) (MY : ∀ n, n < ma → me_n g 18 yp yn yc n)
    (N : pg_n (gh_n g ma (gv_v 4 (sk b) 0 l h P Ln Cn (1 + h * g 8 (sk b)) (g 9 (sk b)))) ma)
    (v1 : vp = nI (min P 1000)) (v2 : vl = nI (min Ln 1000)) (v3 : vc = nI (min Cn 1000)) (w1 : wp = nI (min P 1000)) (w2 : wl = nI (min Ln 1000)) (w3 : wc = nI (min Cn 1000)) :
    rl_B (nI (ma + 1)) (nI (b + 1)) (nI (ma + 1)) (nI (b + 1)) (upd ki ma 4) (upd fi ma (nI (sk b))) (upd se ma 0) (upd (upd lo ma 0) ma (nI l)) (upd (upd hi ma 0) ma (nI h)) (upd pa (sk b) (nI ma)) (upd xp ma vp) (upd xl ma vl) (upd xc ma vc) (upd xs b (nI ma)) (upd so (18 + ma) 4) (upd yl (18 + ma) (nI l)) (upd yh (18 + ma) (nI h)) (upd yf (18 + ma) (nI (sk b))) (upd ys (18 + ma) (nI (sk b))) (upd (upd yp (18 + ma) 1) (18 + ma) wp) (upd (upd yn (18 + ma) 1) (18 + ma) wl) (upd (upd yc (18 + ma) 0) (18 + ma) wc) (upd yk b (nI ma)) := by
  subst v1 v2 v3 w1 w2 w3
  have l1 := S.2.2.1 b (by omega)
  refine nw_B (v := gv_v 4 (sk b) 0 l h P Ln Cn (1 + h * g 8 (sk b)) (g 9 (sk b))) T S (by omega) hm St XT YT MX MY N (fun h => ?_) (fun h => ⟨b, Nat.le_refl _, by omega, rfl⟩) (fun h => ?_) ?_ (fun n hn => ?_) (fun x hx => ?_) ?_ (fun n hn => ?_) ?_ (fun n hn => ?_) ?_ (fun n hn => ?_)
  · have := S.2.2.2.2.1 (b - 1) (by omega)
    rw [show b - 1 + 1 = b by omega] at this
    exact this
  · rw [gv_0.1] at h; omega
  · unfold xt_n
    simp only [gh_m, gv_v, us_s]
    exact ⟨rfl, by trivial, by trivial, by trivial, fun _ => by trivial, fun h => by omega⟩
  · simp only [us_n (show n ≠ ma by omega)]
    exact ⟨by trivial, by trivial, by trivial, by trivial, by trivial⟩
  · rw [us_n (hx b (by omega) (by omega))]
  · unfold yt_n
    simp only [gh_m, gv_v, us_s]
    exact ⟨rfl, fun h => by omega, fun h => by trivial, fun h => by omega, fun h => ⟨by trivial, by trivial⟩⟩
  · simp only [us_n (show 18 + n ≠ 18 + ma by omega)]
    exact ⟨by trivial, by trivial, by trivial, by trivial, by trivial⟩
  · unfold me_n
    simp only [gh_m, gv_v, Nat.zero_add, us_s]
    exact ⟨by trivial, by trivial, by trivial⟩
  · simp only [Nat.zero_add, us_n (show n ≠ ma by omega)]
    exact ⟨by trivial, by trivial, by trivial⟩
  · unfold me_n
    simp only [gh_m, gv_v, us_s]
    exact ⟨by trivial, by trivial, by trivial⟩
  · simp only [us_n (show 18 + n ≠ 18 + ma by omega)]
    exact ⟨by trivial, by trivial, by trivial⟩
end
section
/-! access, work, join, loop, discard -/
theorem vl_add {a b : Nat} : min (min a 1000 + min b 1000) 1000 = min (a + b) 1000 := by omega
theorem vl_max {a b : Nat} : min (max (min a 1000) (min b 1000)) 1000 = min (max a b) 1000 := by omega
theorem vl_max2 {a b : Nat} : max (min a 1000) (min b 1000) = min (max a b) 1000 := by omega
theorem vl_max1 {a b : Nat} : min (1 + max (min a 1000) (min b 1000)) 1000 = min (1 + max a b) 1000 := by omega
theorem vl_lt {a b : Nat} : min a 1000 * min b 1000 < 2 ^ 31 := by
  have : min a 1000 * min b 1000 ≤ 1000 * 1000 := Nat.mul_le_mul (Nat.min_le_right _ _) (Nat.min_le_right _ _)
  omega
theorem lk_w {ar : Nat → Int32} {m : Nat} {x : Int32} : ∀ n, n < 18 → upd ar (18 + m) x n = ar n := fun n hn => us_n (by omega)
theorem i_vc_access {k : Nat} {u : SX} {v : SY} (I : i_Rel k u v) (hk : k + 3 ≤ 1538) (v1 : Int32) : wpX_access (fun r u' => wpY_access (fun r' v' => r' = r ∧ i_Rel (k + 3) u' v') v v1) u v1 := by
  obtain ⟨f_setBits, f_placeCount, f_made, f_height, f_pathCount, f_greatestLength, f_worstTime, f_bestTime, f_worstCount, f_programBound, f_endingCount, f_chosen, f_time, a_kind, a_first, a_second, a_low, a_high, a_parent, a_pathsOf, a_lengthOf, a_choicesOf, a_stack, a_worstPath, a_sureness, a_mostMisses, a_mostHits, a_leastMisses, a_endings, a_runsHolding, a_rounds, a_path, a_pathTop, a_cache, a_runMisses, a_runHits, a_table, a_before, a_behind⟩ := u
  obtain ⟨h_sets, h_places, h_made, h_depth, h_size, h_open, h_time, h_chosen, h_kept, h_worst, h_best, h_worstRuns, h_worstChoices, h_ends, h_bound, h_under, h_back, b_sorts, b_lows, b_highs, b_firsts, b_seconds, b_stack, b_pathsOf, b_lengthOf, b_choicesOf, b_todo, b_cache, b_path, b_tops, b_missed, b_struck, b_worstPath, b_mostMissed, b_mostStruck, b_leastMissed, b_held, b_contents, b_ages, b_phase, b_node, b_sum, b_saved, b_greatest, b_met, b_unsure⟩ := v
  have I2 := I
  obtain ⟨w, s, C, ⟨g, sk, ma, he, T, S, e1, e2, e3, e4, St, XT, YT, MX, MY⟩, A⟩ := I2
  subst e1 e2 e3 e4
  have hma := S.2.1
  have hhe := S.1
  by_cases h : v1 < 0
  · exact br_t h (br_t h ⟨rfl, I⟩)
  · obtain ⟨j, hj, rfl⟩ := nI_of h
    by_cases y : j < 12
    · have y11 : nI j ≤ 11 := nI_le (b := 11) (by omega) (by omega)
      refine br_f h (br_t (nI_lt (b := 12) y (by omega)) ?_)
      by_cases z : ma < 18
      · refine br_t (nI_lt (b := 18) z (by omega)) ?_
        refine xp_leaf z (by omega) ?_
        refine br_f h (br_t y11 (br_f (by rw [show (18 : Int32) = nI 18 from rfl, nI_eq (by omega) (by omega)]; omega) ?_))
        refine ym_make z (by omega) (fun Q HQ => ym_leaf z (by rw [us_s]; decide) (by rw [us_s]; decide) (by rw [us_s]; decide) HQ) ?_
        refine ⟨rfl, w, s, C, bl_leaf (k := 0) T S z St XT YT MX MY (Or.inl ⟨rfl, y⟩), rl_A_low A (fun n hn => ⟨lk_w n hn, lk_w n hn, lk_w n hn⟩)⟩
      · have : ma = 18 := by omega
        subst this
        exact br_f (nI_nlt (b := 18) (by omega) (by omega)) (br_f h (br_t y11 (br_t rfl ⟨rfl, I⟩)))
    · exact br_f h (br_f (nI_nlt (b := 12) (by omega) (by omega)) (br_f h (br_f (nI_ge (a := 11) (by omega) (by omega)) ⟨rfl, I⟩)))
theorem i_vc_work {k : Nat} {u : SX} {v : SY} (I : i_Rel k u v) (hk : k + 3 ≤ 1538) (v1 : Int32) : wpX_work (fun r u' => wpY_work (fun r' v' => r' = r ∧ i_Rel (k + 3) u' v') v v1) u v1 := by
  obtain ⟨f_setBits, f_placeCount, f_made, f_height, f_pathCount, f_greatestLength, f_worstTime, f_bestTime, f_worstCount, f_programBound, f_endingCount, f_chosen, f_time, a_kind, a_first, a_second, a_low, a_high, a_parent, a_pathsOf, a_lengthOf, a_choicesOf, a_stack, a_worstPath, a_sureness, a_mostMisses, a_mostHits, a_leastMisses, a_endings, a_runsHolding, a_rounds, a_path, a_pathTop, a_cache, a_runMisses, a_runHits, a_table, a_before, a_behind⟩ := u
  obtain ⟨h_sets, h_places, h_made, h_depth, h_size, h_open, h_time, h_chosen, h_kept, h_worst, h_best, h_worstRuns, h_worstChoices, h_ends, h_bound, h_under, h_back, b_sorts, b_lows, b_highs, b_firsts, b_seconds, b_stack, b_pathsOf, b_lengthOf, b_choicesOf, b_todo, b_cache, b_path, b_tops, b_missed, b_struck, b_worstPath, b_mostMissed, b_mostStruck, b_leastMissed, b_held, b_contents, b_ages, b_phase, b_node, b_sum, b_saved, b_greatest, b_met, b_unsure⟩ := v
  have I2 := I
  obtain ⟨w, s, C, ⟨g, sk, ma, he, T, S, e1, e2, e3, e4, St, XT, YT, MX, MY⟩, A⟩ := I2
  subst e1 e2 e3 e4
  have hma := S.2.1
  have hhe := S.1
  by_cases h : v1 < 0
  · exact br_t h (br_t h ⟨rfl, I⟩)
  · obtain ⟨j, hj, rfl⟩ := nI_of h
    by_cases y : j ≤ 50
    · have y50 : nI j ≤ 50 := nI_le (b := 50) (by omega) (by omega)
      refine br_f h (br_t y50 ?_)
      by_cases z : ma < 18
      · refine br_t (nI_lt (b := 18) z (by omega)) ?_
        refine xp_leaf z (by omega) ?_
        refine br_f h (br_t y50 (br_f (by rw [show (18 : Int32) = nI 18 from rfl, nI_eq (by omega) (by omega)]; omega) ?_))
        refine ym_make z (by omega) (fun Q HQ => ym_leaf z (by rw [us_s]; decide) (by rw [us_s]; decide) (by rw [us_s]; decide) HQ) ?_
        refine ⟨rfl, w, s, C, bl_leaf (k := 1) T S z St XT YT MX MY (Or.inr ⟨rfl, y⟩), rl_A_low A (fun n hn => ⟨lk_w n hn, lk_w n hn, lk_w n hn⟩)⟩
      · have : ma = 18 := by omega
        subst this
        exact br_f (nI_nlt (b := 18) (by omega) (by omega)) (br_f h (br_t y50 (br_t rfl ⟨rfl, I⟩)))
    · have y50 : ¬ nI j ≤ 50 := nI_ge (a := 50) (by omega) (by omega)
      exact br_f h (br_f y50 (br_f h (br_f y50 ⟨rfl, I⟩)))
theorem i_vc_discard {k : Nat} {u : SX} {v : SY} (I : i_Rel k u v) (hk : k + 3 ≤ 1538) : wpX_discard (fun r u' => wpY_discard (fun r' v' => r' = r ∧ i_Rel (k + 3) u' v') v) u := by
  obtain ⟨f_setBits, f_placeCount, f_made, f_height, f_pathCount, f_greatestLength, f_worstTime, f_bestTime, f_worstCount, f_programBound, f_endingCount, f_chosen, f_time, a_kind, a_first, a_second, a_low, a_high, a_parent, a_pathsOf, a_lengthOf, a_choicesOf, a_stack, a_worstPath, a_sureness, a_mostMisses, a_mostHits, a_leastMisses, a_endings, a_runsHolding, a_rounds, a_path, a_pathTop, a_cache, a_runMisses, a_runHits, a_table, a_before, a_behind⟩ := u
  obtain ⟨h_sets, h_places, h_made, h_depth, h_size, h_open, h_time, h_chosen, h_kept, h_worst, h_best, h_worstRuns, h_worstChoices, h_ends, h_bound, h_under, h_back, b_sorts, b_lows, b_highs, b_firsts, b_seconds, b_stack, b_pathsOf, b_lengthOf, b_choicesOf, b_todo, b_cache, b_path, b_tops, b_missed, b_struck, b_worstPath, b_mostMissed, b_mostStruck, b_leastMissed, b_held, b_contents, b_ages, b_phase, b_node, b_sum, b_saved, b_greatest, b_met, b_unsure⟩ := v
  obtain ⟨w, s, C, ⟨g, sk, ma, he, T, S, e1, e2, e3, e4, St, XT, YT, MX, MY⟩, A⟩ := I
  subst e1 e2 e3 e4
  exact ⟨rfl, w, s, C, ⟨g, sk, 0, 0, fun n hn => by omega, ⟨by omega, by omega, fun i hi => by omega, fun h => by omega, fun i hi => by omega, fun i j _ hj => by omega, fun i n hi => by omega⟩, rfl, rfl, rfl, rfl, fun i hi => by omega, fun n hn => by omega, fun n hn => by omega, fun n hn => by omega, fun n hn => by omega⟩, A⟩
end
section
/-! join and loop -/
theorem sb_two (b : Nat) : nI (b + 2) - 2 = nI b := by
  rw [show (2 : Int32) = nI 2 from rfl, pk_sub (by omega)]
  rfl
theorem vj_join {k : Nat} {v1 : Int32} {f_setBits : Int32} {f_placeCount : Int32} {f_made : Int32} {f_height : Int32} {f_pathCount : Int32} {f_greatestLength : Int32} {f_worstTime : Int32} {f_bestTime : Int32} {f_worstCount : Int32} {f_programBound : Int32} {f_endingCount : Int32} {f_chosen : Int32} {f_time : Int32} {a_kind : Nat → Int32} {a_first : Nat → Int32} {a_second : Nat → Int32} {a_low : Nat → Int32} {a_high : Nat → Int32} {a_parent : Nat → Int32} {a_pathsOf : Nat → Int32} {a_lengthOf : Nat → Int32} {a_choicesOf : Nat → Int32} {a_stack : Nat → Int32} {a_worstPath : Nat → Int32} {a_sureness : Nat → Int32} {a_mostMisses : Nat → Int32} {a_mostHits : Nat → Int32} {a_leastMisses : Nat → Int32} {a_endings : Nat → Int64} {a_runsHolding : Nat → Int32} {a_rounds : Nat → Int32} {a_path : Nat → Int32} {a_pathTop : Nat → Int32} {a_cache : Nat → Int32} {a_runMisses : Nat → Int32} {a_runHits : Nat → Int32} {a_table : Nat → Int32} {a_before : Nat → Int32} {a_behind : Nat → Int32} {h_sets : Int32} {h_places : Int32} {h_made : Int32} {h_depth : Int32} {h_size : Int32} {h_open : Int32} {h_time : Int32} {h_chosen : Int32} {h_kept : Int32} {h_worst : Int32} {h_best : Int32} {h_worstRuns : Int32} {h_worstChoices : Int32} {h_ends : Int32} {h_bound : Int32} {h_under : Int32} {h_back : Int32} {b_sorts : Nat → Int32} {b_lows : Nat → Int32} {b_highs : Nat → Int32} {b_firsts : Nat → Int32} {b_seconds : Nat → Int32} {b_stack : Nat → Int32} {b_pathsOf : Nat → Int32} {b_lengthOf : Nat → Int32} {b_choicesOf : Nat → Int32} {b_todo : Nat → Int32} {b_cache : Nat → Int32} {b_path : Nat → Int32} {b_tops : Nat → Int32} {b_missed : Nat → Int32} {b_struck : Nat → Int32} {b_worstPath : Nat → Int32} {b_mostMissed : Nat → Int32} {b_mostStruck : Nat → Int32} {b_leastMissed : Nat → Int32} {b_held : Nat → Int32} {b_contents : Nat → Int64} {b_ages : Nat → Int32} {b_phase : Nat → Int32} {b_node : Nat → Int32} {b_sum : Nat → Int32} {b_saved : Nat → Int32} {b_greatest : Nat → Int32} {b_met : Nat → Int32} {b_unsure : Nat → Int32} (I : i_Rel k (f_setBits, f_placeCount, f_made, f_height, f_pathCount, f_greatestLength, f_worstTime, f_bestTime, f_worstCount, f_programBound, f_endingCount, f_chosen, f_time, a_kind, a_first, a_second, a_low, a_high, a_parent, a_pathsOf, a_lengthOf, a_choicesOf, a_stack, a_worstPath, a_sureness, a_mostMisses, a_mostHits, a_leastMisses, a_endings, a_runsHolding, a_rounds, a_path, a_pathTop, a_cache, a_runMisses, a_runHits, a_table, a_before, a_behind) (h_sets, h_places, h_made, h_depth, h_size, h_open, h_time, h_chosen, h_kept, h_worst, h_best, h_worstRuns, h_worstChoices, h_ends, h_bound, h_under, h_back, b_sorts, b_lows, b_highs, b_firsts, b_seconds, b_stack, b_pathsOf, b_lengthOf, b_choicesOf, b_todo, b_cache, b_path, b_tops, b_missed, b_struck, b_worstPath, b_mostMissed, b_mostStruck, b_leastMissed, b_held, b_contents, b_ages, b_phase, b_node, b_sum, b_saved, b_greatest, b_met, b_unsure)) (hv : v1 = 0 ∨ v1 = 1) : wX_join_11 (fun r u' => wpY_join (fun r' v' => r' = r ∧ i_Rel (k + 3) u' v') (h_sets, h_places, h_made, h_depth, h_size, h_open, h_time, h_chosen, h_kept, h_worst, h_best, h_worstRuns, h_worstChoices, h_ends, h_bound, h_under, h_back, b_sorts, b_lows, b_highs, b_firsts, b_seconds, b_stack, b_pathsOf, b_lengthOf, b_choicesOf, b_todo, b_cache, b_path, b_tops, b_missed, b_struck, b_worstPath, b_mostMissed, b_mostStruck, b_leastMissed, b_held, b_contents, b_ages, b_phase, b_node, b_sum, b_saved, b_greatest, b_met, b_unsure) v1) v1 f_setBits f_placeCount f_made f_height f_pathCount f_greatestLength f_worstTime f_bestTime f_worstCount f_programBound f_endingCount f_chosen f_time a_kind a_first a_second a_low a_high a_parent a_pathsOf a_lengthOf a_choicesOf a_stack a_worstPath a_sureness a_mostMisses a_mostHits a_leastMisses a_endings a_runsHolding a_rounds a_path a_pathTop a_cache a_runMisses a_runHits a_table a_before a_behind := by
  have I2 := I
  obtain ⟨w, s, C, ⟨g, sk, ma, he, T, S, e1, e2, e3, e4, St, XT, YT, MX, MY⟩, A⟩ := I2
  subst e1 e2 e3 e4
  have hma := S.2.1
  have hhe := S.1
  have h0 : ¬ v1 < 0 := by rcases hv with e | e <;> rw [e] <;> decide
  have h1 : v1 ≤ 1 := by rcases hv with e | e <;> rw [e] <;> decide
  by_cases z : ma < 18
  · have z2 : ¬ nI ma = 18 := by rw [show (18 : Int32) = nI 18 from rfl, nI_eq (by omega) (by omega)]; omega
    refine br_t (nI_lt (b := 18) z (by omega)) ?_
    by_cases y : 2 ≤ he
    · obtain ⟨b, rfl⟩ : ∃ b, he = b + 2 := ⟨he - 2, by omega⟩
      have y2 : (2 : Int32) ≤ nI (b + 2) := nI_le (a := 2) (by omega) (by omega)
      have eb1 : nI (b + 2) - 1 = nI (b + 1) := nI_pred (b + 1)
      have eb2 : nI (b + 2) - 2 = nI b := sb_two b
      have cb : (nI b).toNatClampNeg = b := nI_clamp (by omega)
      have cb1 : (nI (b + 1)).toNatClampNeg = b + 1 := nI_clamp (by omega)
      have ib : vp_in (nI b) 18 := vp_in_nI (by omega) (by omega)
      have ib1 : vp_in (nI (b + 1)) 18 := vp_in_nI (by omega) (by omega)
      obtain ⟨sx0, sy0⟩ := St b (by omega)
      obtain ⟨sx1, sy1⟩ := St (b + 1) (by omega)
      have l1 := S.2.2.1 b (by omega)
      have l2 := S.2.2.1 (b + 1) (by omega)
      have l3 := S.2.2.2.2.2.1 b (b + 1) (by omega) (by omega)
      have l4 : sk (b + 1) + 1 = ma := S.2.2.2.1 (by omega)
      have l5 : g 9 (sk (b + 1)) = sk b + 1 := (S.2.2.2.2.1 b (by omega)).symm
      obtain ⟨ma1, ma2, ma3⟩ := MX (sk b) l1
      obtain ⟨mb1, mb2, mb3⟩ := MX (sk (b + 1)) l2
      obtain ⟨na1, na2, na3⟩ := MY (sk b) l1
      obtain ⟨nb1, nb2, nb3⟩ := MY (sk (b + 1)) l2
      rw [Nat.zero_add] at ma1 ma2 ma3 mb1 mb2 mb3
      have pa := (T (sk b) l1).2.1
      have pb := (T (sk (b + 1)) l2).2.1
      refine br_t y2 ⟨by rw [eb1]; exact ib1, nm_r (e' := nI (sk (b + 1))) (by rw [eb1, cb1]; exact sx1) ⟨by rw [eb2]; exact ib, nm_r (e' := nI (sk b)) (by rw [eb2, cb]; exact sx0) (nm_r eb2 ?_)⟩⟩
      rcases hv with e | e
      · subst e
        refine br_t rfl ?_
        refine xp_seq z (by omega) (by omega) (by omega) ?_
        refine br_f h0 (br_t h1 (br_f z2 (br_t y2 (nm_r eb2 ⟨ib, ?_⟩))))
        rw [nI_1, cb, cb1, sy0, sy1]
        refine ⟨ib1, ?_⟩
        refine ym_make z (by omega) (fun Q HQ => ym_seq z l1 l2 us_s us_s us_s HQ) ?_
        refine ⟨rfl, w, s, C, bl_two (k := 2) (hh := 0) T S z St XT YT MX MY _ (Or.inl rfl) rfl us_s (fun n hn => us_n (by omega)) (pn_seq T l3 l4 l5) ?_ ?_ ?_ ?_ ?_ ?_, rl_A_low A (fun n hn => ⟨lk_w n hn, by rw [lk_w n hn, lk_w n hn], by rw [lk_w n hn, lk_w n hn]⟩)⟩
        · rw [ma1, mb1, pk_mul, xm_nat vl_lt, mn_mul pa pb]
        · rw [ma2, mb2, nI_add, xm_nat (by omega), vl_add]
        · rw [ma3, mb3, nI_add, xm_nat (by omega), vl_add]
        · rw [na1, nb1, pk_mul, xm_nat2 vl_lt, mn_mul pa pb]
        · rw [na2, nb2, nI_add, xm_nat2 (by omega), vl_add]
        · rw [na3, nb3, nI_add, xm_nat2 (by omega), vl_add]
      · subst e
        refine br_f (by decide) ?_
        refine xp_if z (by omega) (by omega) (by omega) ?_
        refine br_f h0 (br_t h1 (br_f z2 (br_t y2 (nm_r eb2 ⟨ib, ?_⟩))))
        rw [nI_1, cb, cb1, sy0, sy1]
        refine ⟨ib1, ?_⟩
        refine ym_make z (by omega) (fun Q HQ => ym_if z l1 l2 us_s us_s us_s HQ) ?_
        refine ⟨rfl, w, s, C, bl_two (k := 3) (hh := 1) T S z St XT YT MX MY _ (Or.inr rfl) rfl us_s (fun n hn => by rw [us_n (by omega), us_n (by omega)]) (pn_if T l3 l4 l5) ?_ ?_ ?_ ?_ ?_ ?_, rl_A_low A (fun n hn => ⟨lk_w n hn, by rw [lk_w n hn, lk_w n hn], by rw [lk_w n hn, lk_w n hn]⟩)⟩
        · rw [ma1, mb1, nI_add, xm_nat (by omega), vl_add]
        · rw [ma2, mb2, ix_nat (by omega) (by omega), xm_nat (by omega), vl_max]
        · rw [ma3, mb3, ix_nat (by omega) (by omega), show (1 : Int32) = nI 1 from rfl, nI_add, xm_nat (by omega), vl_max1]
        · rw [na1, nb1, nI_add, xm_nat2 (by omega), vl_add]
        · rw [na2, nb2, ix_nat (by omega) (by omega), vl_max2]
        · rw [na3, nb3, ix_nat (by omega) (by omega), show (1 : Int32) = nI 1 from rfl, nI_add, xm_nat2 (by omega), vl_max1]
    · have y2 : ¬ (2 : Int32) ≤ nI he := nI_ge (b := 2) (by omega) (by omega)
      exact br_f y2 (br_f h0 (br_t h1 (br_f z2 (br_f y2 ⟨rfl, I⟩))))
  · have : ma = 18 := by omega
    subst this
    exact br_f (nI_nlt (b := 18) (by omega) (by omega)) (br_f h0 (br_t h1 (br_t rfl ⟨rfl, I⟩)))
theorem i_vc_join {k : Nat} {u : SX} {v : SY} (I : i_Rel k u v) (hk : k + 3 ≤ 1538) (v1 : Int32) : wpX_join (fun r u' => wpY_join (fun r' v' => r' = r ∧ i_Rel (k + 3) u' v') v v1) u v1 := by
  obtain ⟨f_setBits, f_placeCount, f_made, f_height, f_pathCount, f_greatestLength, f_worstTime, f_bestTime, f_worstCount, f_programBound, f_endingCount, f_chosen, f_time, a_kind, a_first, a_second, a_low, a_high, a_parent, a_pathsOf, a_lengthOf, a_choicesOf, a_stack, a_worstPath, a_sureness, a_mostMisses, a_mostHits, a_leastMisses, a_endings, a_runsHolding, a_rounds, a_path, a_pathTop, a_cache, a_runMisses, a_runHits, a_table, a_before, a_behind⟩ := u
  obtain ⟨h_sets, h_places, h_made, h_depth, h_size, h_open, h_time, h_chosen, h_kept, h_worst, h_best, h_worstRuns, h_worstChoices, h_ends, h_bound, h_under, h_back, b_sorts, b_lows, b_highs, b_firsts, b_seconds, b_stack, b_pathsOf, b_lengthOf, b_choicesOf, b_todo, b_cache, b_path, b_tops, b_missed, b_struck, b_worstPath, b_mostMissed, b_mostStruck, b_leastMissed, b_held, b_contents, b_ages, b_phase, b_node, b_sum, b_saved, b_greatest, b_met, b_unsure⟩ := v
  by_cases h0 : v1 = 0
  · exact br_t h0 (vj_join I (Or.inl h0))
  · by_cases h1 : v1 = 1
    · exact br_f h0 (br_t h1 (vj_join I (Or.inr h1)))
    · refine br_f h0 (br_f h1 ?_)
      by_cases n : v1 < 0
      · exact br_t n ⟨rfl, I⟩
      · refine br_f n (br_f (fun z => ?_) ⟨rfl, I⟩)
        obtain ⟨j, hj, rfl⟩ := nI_of n
        have := (nI_leI (b := 1) hj (by omega)).mp z
        have : j = 0 ∨ j = 1 := by omega
        rcases this with e | e
        · subst e; exact h0 rfl
        · subst e; exact h1 rfl
theorem i_vc_loop {k : Nat} {u : SX} {v : SY} (I : i_Rel k u v) (hk : k + 3 ≤ 1538) (v1 : Int32) (v2 : Int32) : wpX_loop (fun r u' => wpY_loop (fun r' v' => r' = r ∧ i_Rel (k + 3) u' v') v v1 v2) u v1 v2 := by
  obtain ⟨f_setBits, f_placeCount, f_made, f_height, f_pathCount, f_greatestLength, f_worstTime, f_bestTime, f_worstCount, f_programBound, f_endingCount, f_chosen, f_time, a_kind, a_first, a_second, a_low, a_high, a_parent, a_pathsOf, a_lengthOf, a_choicesOf, a_stack, a_worstPath, a_sureness, a_mostMisses, a_mostHits, a_leastMisses, a_endings, a_runsHolding, a_rounds, a_path, a_pathTop, a_cache, a_runMisses, a_runHits, a_table, a_before, a_behind⟩ := u
  obtain ⟨h_sets, h_places, h_made, h_depth, h_size, h_open, h_time, h_chosen, h_kept, h_worst, h_best, h_worstRuns, h_worstChoices, h_ends, h_bound, h_under, h_back, b_sorts, b_lows, b_highs, b_firsts, b_seconds, b_stack, b_pathsOf, b_lengthOf, b_choicesOf, b_todo, b_cache, b_path, b_tops, b_missed, b_struck, b_worstPath, b_mostMissed, b_mostStruck, b_leastMissed, b_held, b_contents, b_ages, b_phase, b_node, b_sum, b_saved, b_greatest, b_met, b_unsure⟩ := v
  have I2 := I
  obtain ⟨w, s, C, ⟨g, sk, ma, he, T, S, e1, e2, e3, e4, St, XT, YT, MX, MY⟩, A⟩ := I2
  subst e1 e2 e3 e4
  have hma := S.2.1
  have hhe := S.1
  by_cases h : v1 < 0
  · exact br_t h (br_t h ⟨rfl, I⟩)
  by_cases h4 : 4 < v1
  · exact br_f h (br_t h4 (br_f h (br_t h4 ⟨rfl, I⟩)))
  by_cases h2 : v2 < v1
  · exact br_f h (br_f h4 (br_t h2 (br_f h (br_f h4 (br_t h2 ⟨rfl, I⟩)))))
  by_cases h5 : v2 ≤ 4
  · by_cases z : ma < 18
    · have z2 : ¬ nI ma = 18 := by rw [show (18 : Int32) = nI 18 from rfl, nI_eq (by omega) (by omega)]; omega
      have z1 : nI ma < 18 := nI_lt (b := 18) z (by omega)
      by_cases y : 1 ≤ he
      · obtain ⟨b, rfl⟩ : ∃ b, he = b + 1 := ⟨he - 1, by omega⟩
        have y2 : (1 : Int32) ≤ nI (b + 1) := nI_le (a := 1) (by omega) (by omega)
        have eb1 : nI (b + 1) - 1 = nI b := nI_pred b
        have cb : (nI b).toNatClampNeg = b := nI_clamp (by omega)
        have ib : vp_in (nI b) 18 := vp_in_nI (by omega) (by omega)
        obtain ⟨sx0, sy0⟩ := St b (by omega)
        have l1 := S.2.2.1 b (by omega)
        have l4 : sk b + 1 = ma := S.2.2.2.1 (by omega)
        obtain ⟨ma1, ma2, ma3⟩ := MX (sk b) l1
        obtain ⟨na1, na2, na3⟩ := MY (sk b) l1
        rw [Nat.zero_add] at ma1 ma2 ma3
        have pa := (T (sk b) l1).2.1
        have h22 : ¬ v2 < 0 := fun x => h2 (Int32.lt_of_lt_of_le x (Int32.not_lt.mp h))
        obtain ⟨lo, hlo, rfl⟩ := nI_of h
        obtain ⟨hi, hhi, rfl⟩ := nI_of h22
        have hh4 : hi ≤ 4 := (nI_leI (b := 4) hhi (by omega)).mp h5
        have hlh : lo ≤ hi := (nI_leI hlo hhi).mp (Int32.not_lt.mp h2)
        refine br_f h (br_f h4 (br_f h2 (br_t h5 (br_t z1 (br_t y2 ⟨by rw [eb1]; exact ib, nm_r (e' := nI (sk b)) (by rw [eb1, cb]; exact sx0) (nm_r eb1 ?_)⟩)))))
        refine xp_loop z (by omega) (by omega) hlh hh4 pa ma1 ?_
        refine br_f h (br_f h4 (br_f h2 (br_t h5 (br_f z2 (br_t y2 (nm_r eb1 ⟨ib, ib, ?_⟩))))))
        rw [cb, sy0]
        refine ym_make z (by omega) (fun Q HQ => ym_loop (P := g 5 (sk b)) z l1 hlh hh4 pa na1 us_s us_s us_s us_s HQ) ?_
        have L4 : min (g 6 (sk b)) 1000 ≤ 1000 := Nat.min_le_right _ _
        have C4 : min (g 7 (sk b)) 1000 ≤ 1000 := Nat.min_le_right _ _
        have m1 : hi * (1 + min (g 6 (sk b)) 1000) ≤ 4 * 1001 := Nat.mul_le_mul hh4 (by omega)
        have m2 : hi * min (g 7 (sk b)) 1000 ≤ 4 * 1000 := Nat.mul_le_mul hh4 C4
        have o1 : (if lo < hi then 1 else 0) ≤ 1 := by split <;> omega
        have t1 := mn_tt_le (g 5 (sk b)) lo (hi + 1)
        refine ⟨rfl, w, s, C, bl_loop T S z St XT YT MX MY (pn_loop T l4 hlh hh4) ?_ ?_ ?_ ?_ ?_ ?_, rl_A_low A (fun n hn => ⟨lk_w n hn, by rw [lk_w n hn, lk_w n hn], by rw [lk_w n hn, lk_w n hn]⟩)⟩
        · rw [xm_nat (by omega), mn_tt_eq]
        · rw [ma2, show (1 : Int32) = nI 1 from rfl, nI_add, pk_mul, xm_nat (by omega), mn_len hh4]
        · rw [ma3, pk_mul, nI_add, xm_nat (by omega), mn_cho hh4]
        · rfl
        · rw [na2, show (1 : Int32) = nI 1 from rfl, nI_add, pk_mul, xm_nat2 (by omega), mn_len hh4]
        · rw [na3, pk_mul, nI_add, xm_nat2 (by omega), Nat.add_comm, mn_cho hh4]
      · have y2 : ¬ (1 : Int32) ≤ nI he := nI_ge (b := 1) (by omega) (by omega)
        exact br_f h (br_f h4 (br_f h2 (br_t h5 (br_t z1 (br_f y2 (br_f h (br_f h4 (br_f h2 (br_t h5 (br_f z2 (br_f y2 ⟨rfl, I⟩)))))))))))
    · have : ma = 18 := by omega
      subst this
      exact br_f h (br_f h4 (br_f h2 (br_t h5 (br_f (nI_nlt (b := 18) (by omega) (by omega)) (br_f h (br_f h4 (br_f h2 (br_t h5 (br_t rfl ⟨rfl, I⟩)))))))))
  · exact br_f h (br_f h4 (br_f h2 (br_f h5 (br_f h (br_f h4 (br_f h2 (br_f h5 ⟨rfl, I⟩)))))))
end
section
/-! program, and the new object -/
theorem yo_58 {h_sets : Int32} {h_places : Int32} {h_made : Int32} {h_depth : Int32} {h_size : Int32} {h_open : Int32} {h_time : Int32} {h_chosen : Int32} {h_kept : Int32} {h_worst : Int32} {h_best : Int32} {h_worstRuns : Int32} {h_worstChoices : Int32} {h_ends : Int32} {h_bound : Int32} {h_under : Int32} {h_back : Int32} {b_sorts : Nat → Int32} {b_lows : Nat → Int32} {b_highs : Nat → Int32} {b_firsts : Nat → Int32} {b_seconds : Nat → Int32} {b_stack : Nat → Int32} {b_pathsOf : Nat → Int32} {b_lengthOf : Nat → Int32} {b_choicesOf : Nat → Int32} {b_todo : Nat → Int32} {b_cache : Nat → Int32} {b_path : Nat → Int32} {b_tops : Nat → Int32} {b_missed : Nat → Int32} {b_struck : Nat → Int32} {b_worstPath : Nat → Int32} {b_mostMissed : Nat → Int32} {b_mostStruck : Nat → Int32} {b_leastMissed : Nat → Int32} {b_held : Nat → Int32} {b_contents : Nat → Int64} {b_ages : Nat → Int32} {b_phase : Nat → Int32} {b_node : Nat → Int32} {b_sum : Nat → Int32} {b_saved : Nat → Int32} {b_greatest : Nat → Int32} {b_met : Nat → Int32} {b_unsure : Nat → Int32} {post : Int32 → SY → Prop} {ma : Nat} (hma : ma ≤ 18) (hm : h_made = nI ma) (H : wpY_workAll (fun u => match u with | (h_sets, h_places, h_made, h_depth, h_size, h_open, h_time, h_chosen, h_kept, h_worst, h_best, h_worstRuns, h_worstChoices, h_ends, h_bound, h_under, h_back, b_sorts, b_lows, b_highs, b_firsts, b_seconds, b_stack, b_pathsOf, b_lengthOf, b_choicesOf, b_todo, b_cache, b_path, b_tops, b_missed, b_struck, b_worstPath, b_mostMissed, b_mostStruck, b_leastMissed, b_held, b_contents, b_ages, b_phase, b_node, b_sum, b_saved, b_greatest, b_met, b_unsure) => post h_size (h_sets, h_places, h_made, h_depth, h_size, h_open, h_time, h_chosen, h_kept, h_worst, h_best, h_worstRuns, h_worstChoices, h_ends, h_bound, h_under, h_back, b_sorts, b_lows, b_highs, b_firsts, b_seconds, b_stack, b_pathsOf, b_lengthOf, b_choicesOf, b_todo, b_cache, b_path, b_tops, b_missed, b_struck, b_worstPath, b_mostMissed, b_mostStruck, b_leastMissed, b_held, b_contents, b_ages, b_phase, b_node, b_sum, b_saved, b_greatest, b_met, b_unsure)) (h_sets, h_places, 0, 0, nI ma, h_open, h_time, h_chosen, h_kept, h_worst, h_best, h_worstRuns, h_worstChoices, h_ends, h_bound, h_under, h_back, sw_f (fun j => b_sorts (18 + j)) b_sorts ma, sw_f (fun j => b_lows (18 + j)) b_lows ma, sw_f (fun j => b_highs (18 + j)) b_highs ma, sw_f (fun j => b_firsts (18 + j)) b_firsts ma, sw_f (fun j => b_seconds (18 + j)) b_seconds ma, b_stack, sw_f (fun j => b_pathsOf (18 + j)) b_pathsOf ma, sw_f (fun j => b_lengthOf (18 + j)) b_lengthOf ma, b_choicesOf, b_todo, b_cache, b_path, b_tops, b_missed, b_struck, b_worstPath, b_mostMissed, b_mostStruck, b_leastMissed, b_held, b_contents, b_ages, b_phase, b_node, b_sum, b_saved, b_greatest, b_met, b_unsure)) :
    ∀ d i, i + d = ma → wY_program_58 post h_sets h_places h_made h_depth h_size h_open h_time h_chosen h_kept h_worst h_best h_worstRuns h_worstChoices h_ends h_bound h_under h_back (d + 1) (nI i) (sw_f (fun j => b_sorts (18 + j)) b_sorts i) (sw_f (fun j => b_lows (18 + j)) b_lows i) (sw_f (fun j => b_highs (18 + j)) b_highs i) (sw_f (fun j => b_firsts (18 + j)) b_firsts i) (sw_f (fun j => b_seconds (18 + j)) b_seconds i) b_stack (sw_f (fun j => b_pathsOf (18 + j)) b_pathsOf i) (sw_f (fun j => b_lengthOf (18 + j)) b_lengthOf i) b_choicesOf b_todo b_cache b_path b_tops b_missed b_struck b_worstPath b_mostMissed b_mostStruck b_leastMissed b_held b_contents b_ages b_phase b_node b_sum b_saved b_greatest b_met b_unsure := by
  subst hm
  intro d
  induction d with
  | zero =>
    intro i hi
    have hi : i = ma := by omega
    subst hi
    exact br_t (nI_le (Nat.le_refl _) (by omega)) H
  | succ d ih =>
    intro i hi
    have c : (nI i).toNatClampNeg = i := nI_clamp (by omega)
    have ii : vp_in (nI i) 36 := vp_in_nI (by omega) (by omega)
    have rc := yr_c (show i < 18 by omega)
    have ri := yr_i (show i < 18 by omega)
    have hi2 := ih (i + 1) (by omega)
    refine br_f (nI_ge (by omega) (by omega)) ⟨ri, ii, ?_⟩
    rw [c, rc, sw_ge (by omega), sw_ge (by omega), sw_ge (by omega), sw_ge (by omega), sw_ge (by omega), sw_ge (by omega), sw_ge (by omega)]
    rw [sw_u rfl, sw_u rfl, sw_u rfl, sw_u rfl, sw_u rfl, sw_u rfl, sw_u rfl]
    exact nm_e ⟨ri, ii, nm_e ⟨ri, ii, nm_e ⟨ri, ii, nm_e ⟨ri, ii, nm_e ⟨ri, ii, nm_e ⟨ri, ii, nm_e (nm_r (nI_1 i) hi2)⟩⟩⟩⟩⟩⟩
theorem rl_B0 {g : Nat → Nat → Nat} {ki fi se lo hi pa xp xl xc xs so yl yh yf ys yp yn yc yk : Nat → Int32} : rl_B 0 0 0 0 ki fi se lo hi pa xp xl xc xs so yl yh yf ys yp yn yc yk :=
  ⟨g, fun _ => 0, 0, 0, fun n hn => by omega, ⟨by omega, by omega, fun i hi => by omega, fun h => by omega, fun i hi => by omega, fun i j _ hj => by omega, fun i n hi => by omega⟩, rfl, rfl, rfl, rfl, fun i hi => by omega, fun n hn => by omega, fun n hn => by omega, fun n hn => by omega, fun n hn => by omega⟩
set_option maxHeartbeats 4000000 in
theorem i_vc_program {k : Nat} {u : SX} {v : SY} (I : i_Rel k u v) (hk : k + 3 ≤ 1538) : wpX_program (fun r u' => wpY_program (fun r' v' => r' = r ∧ i_Rel (k + 3) u' v') v) u := by
  obtain ⟨f_setBits, f_placeCount, f_made, f_height, f_pathCount, f_greatestLength, f_worstTime, f_bestTime, f_worstCount, f_programBound, f_endingCount, f_chosen, f_time, a_kind, a_first, a_second, a_low, a_high, a_parent, a_pathsOf, a_lengthOf, a_choicesOf, a_stack, a_worstPath, a_sureness, a_mostMisses, a_mostHits, a_leastMisses, a_endings, a_runsHolding, a_rounds, a_path, a_pathTop, a_cache, a_runMisses, a_runHits, a_table, a_before, a_behind⟩ := u
  obtain ⟨h_sets, h_places, h_made, h_depth, h_size, h_open, h_time, h_chosen, h_kept, h_worst, h_best, h_worstRuns, h_worstChoices, h_ends, h_bound, h_under, h_back, b_sorts, b_lows, b_highs, b_firsts, b_seconds, b_stack, b_pathsOf, b_lengthOf, b_choicesOf, b_todo, b_cache, b_path, b_tops, b_missed, b_struck, b_worstPath, b_mostMissed, b_mostStruck, b_leastMissed, b_held, b_contents, b_ages, b_phase, b_node, b_sum, b_saved, b_greatest, b_met, b_unsure⟩ := v
  have I2 := I
  obtain ⟨w, s, C, ⟨g, sk, ma, he, T, S, e1, e2, e3, e4, St, XT, YT, MX, MY⟩, A⟩ := I2
  subst e1 e2 e3 e4
  have hma := S.2.1
  have hhe := S.1
  by_cases h1 : he = 1
  · subst h1
    obtain ⟨root, rfl⟩ : ∃ root, ma = root + 1 := ⟨ma - 1, by omega⟩
    have hr : sk 0 = root := by
      have : sk 0 + 1 = root + 1 := S.2.2.2.1 (by omega)
      omega
    obtain ⟨sx0, sy0⟩ := St 0 (by omega)
    rw [hr] at sx0 sy0
    have c : (nI root).toNatClampNeg = root := nI_clamp (by omega)
    have i18 : vp_in (nI root) 18 := vp_in_nI (by omega) (by omega)
    have et : 17 + nI (root + 1) = nI (18 + root) := by
      rw [show (17 : Int32) = nI 17 from rfl, nI_add]
      exact congrArg nI (by omega)
    have ct : (nI (18 + root)).toNatClampNeg = 18 + root := nI_clamp (by omega)
    have i36 : vp_in (nI (18 + root)) 36 := vp_in_nI (by omega) (by omega)
    obtain ⟨m1, m2, m3⟩ := MX root (by omega)
    obtain ⟨n1, n2, n3⟩ := MY root (by omega)
    rw [Nat.zero_add] at m1 m2 m3
    have one : nI 1 = 1 := rfl
    have gt : ∀ (x y : Nat), y < 900 → (nI y < nI (min x 1000) ↔ y < x) := by
      intro x y hy
      rw [nI_ltI (by omega) (by omega)]
      omega
    refine br_t one (nm_r sx0 ⟨i18, ?_⟩)
    rw [c, m1, m2, m3]
    by_cases p1 : 150 < g 5 root
    · refine br_t ((gt _ 150 (by omega)).mpr p1) (br_t one (nm_r et ⟨i36, ?_⟩))
      rw [ct, n1]
      exact br_t ((gt _ 150 (by omega)).mpr p1) ⟨rfl, I⟩
    have q1 : ¬ (150 : Int32) < nI (min (g 5 root) 1000) := fun z => p1 ((gt _ 150 (by omega)).mp z)
    by_cases p2 : 120 < g 6 root
    · have q2 : (120 : Int32) < nI (min (g 6 root) 1000) := (gt _ 120 (by omega)).mpr p2
      refine br_f q1 ⟨i18, br_t q2 (br_t one (nm_r et ⟨i36, ?_⟩))⟩
      rw [ct, n1, n2]
      exact br_f q1 ⟨i36, br_t q2 ⟨rfl, I⟩⟩
    have q2 : ¬ (120 : Int32) < nI (min (g 6 root) 1000) := fun z => p2 ((gt _ 120 (by omega)).mp z)
    by_cases p3 : 20 < g 7 root
    · have q3 : ¬ nI (min (g 7 root) 1000) ≤ 20 := Int32.not_le.mpr ((gt _ 20 (by omega)).mpr p3)
      refine br_f q1 ⟨i18, br_f q2 ⟨i18, br_f q3 (br_t one (nm_r et ⟨i36, ?_⟩))⟩⟩
      rw [ct, n1, n2, n3]
      exact br_f q1 ⟨i36, br_f q2 ⟨i36, br_f q3 ⟨rfl, I⟩⟩⟩
    have q3 : nI (min (g 7 root) 1000) ≤ 20 := Int32.not_lt.mp (fun z => p3 ((gt _ 20 (by omega)).mp z))
    obtain ⟨c1, c2, c3, c4, c5, c6, c7, c8⟩ := C
    have YT0 : ∀ n, n ≤ root → yt_n g 0 (sw_f (fun j => b_sorts (18 + j)) b_sorts (root + 1)) (sw_f (fun j => b_lows (18 + j)) b_lows (root + 1)) (sw_f (fun j => b_highs (18 + j)) b_highs (root + 1)) (sw_f (fun j => b_firsts (18 + j)) b_firsts (root + 1)) (sw_f (fun j => b_seconds (18 + j)) b_seconds (root + 1)) n := by
      intro n hn
      have y := YT n (by omega)
      unfold yt_n at y ⊢
      rw [Nat.zero_add, sw_lt (by omega), sw_lt (by omega), sw_lt (by omega), sw_lt (by omega), sw_lt (by omega)]
      exact y
    obtain ⟨en, bd, x1, x2, x3, x4, x5, x6, y1, y2, y3, y4, y5, y6, y7, y8, y9, p1', p2', p3', p4', p5', p6', p7', p8', p9', p10', p11', r1, r2, r3, r4, r5, r6, r7, r8, r9, r10, r11, tb, bf, be, sn, ag, nd, ph, sm, sv, gr, me, us, l1, l2, K1, K2, K3, KX, KY⟩ := ad_all (g := g) (root := root) (w := w) (s := s) (f_setBits := f_setBits) (f_placeCount := f_placeCount) (f_made := nI (root + 1)) (f_height := nI 1) (f_pathCount := f_pathCount) (f_greatestLength := f_greatestLength) (f_worstTime := f_worstTime) (f_bestTime := f_bestTime) (f_worstCount := f_worstCount) (f_programBound := f_programBound) (f_endingCount := f_endingCount) (f_chosen := f_chosen) (f_time := f_time) (a_kind := a_kind) (a_first := a_first) (a_second := a_second) (a_low := a_low) (a_high := a_high) (a_parent := a_parent) (a_pathsOf := a_pathsOf) (a_lengthOf := a_lengthOf) (a_choicesOf := a_choicesOf) (a_stack := a_stack) (a_worstPath := a_worstPath) (a_sureness := a_sureness) (a_mostMisses := a_mostMisses) (a_mostHits := a_mostHits) (a_leastMisses := a_leastMisses) (a_endings := a_endings) (a_runsHolding := a_runsHolding) (a_rounds := a_rounds) (a_path := a_path) (a_pathTop := a_pathTop) (a_cache := a_cache) (a_runMisses := a_runMisses) (a_runHits := a_runHits) (a_table := a_table) (a_before := a_before) (a_behind := a_behind) (h_sets := h_sets) (h_places := h_places) (h_made := 0) (h_depth := 0) (h_size := nI (root + 1)) (h_open := h_open) (h_time := h_time) (h_chosen := h_chosen) (h_kept := h_kept) (h_worst := h_worst) (h_best := h_best) (h_worstRuns := h_worstRuns) (h_worstChoices := h_worstChoices) (h_ends := h_ends) (h_bound := h_bound) (h_under := h_under) (h_back := h_back) (b_sorts := sw_f (fun j => b_sorts (18 + j)) b_sorts (root + 1)) (b_lows := sw_f (fun j => b_lows (18 + j)) b_lows (root + 1)) (b_highs := sw_f (fun j => b_highs (18 + j)) b_highs (root + 1)) (b_firsts := sw_f (fun j => b_firsts (18 + j)) b_firsts (root + 1)) (b_seconds := sw_f (fun j => b_seconds (18 + j)) b_seconds (root + 1)) (b_stack := b_stack) (b_pathsOf := sw_f (fun j => b_pathsOf (18 + j)) b_pathsOf (root + 1)) (b_lengthOf := sw_f (fun j => b_lengthOf (18 + j)) b_lengthOf (root + 1)) (b_choicesOf := b_choicesOf) (b_todo := b_todo) (b_cache := b_cache) (b_path := b_path) (b_tops := b_tops) (b_missed := b_missed) (b_struck := b_struck) (b_worstPath := b_worstPath) (b_mostMissed := b_mostMissed) (b_mostStruck := b_mostStruck) (b_leastMissed := b_leastMissed) (b_held := b_held) (b_contents := b_contents) (b_ages := b_ages) (b_phase := b_phase) (b_node := b_node) (b_sum := b_sum) (b_saved := b_saved) (b_greatest := b_greatest) (b_met := b_met) (b_unsure := b_unsure)
      T (by omega) c1 c2 c3 c4 c5 c6 c7 c8 rfl rfl (by omega) (by omega) (by omega) (fun n hn => XT n (by omega)) YT0
    refine br_f q1 ⟨i18, br_f q2 ⟨i18, br_t q3 ?_⟩⟩
    refine KX _ ?_
    refine br_t one (nm_r et ⟨i36, ?_⟩)
    rw [ct, n1, n2, n3]
    refine br_f q1 ⟨i36, br_f q2 ⟨i36, br_t q3 ⟨root + 2, ?_⟩⟩⟩
    have L := yo_58 (h_sets := h_sets) (h_places := h_places) (h_made := nI (root + 1)) (h_depth := nI 1) (h_size := h_size) (h_open := h_open) (h_time := h_time) (h_chosen := h_chosen) (h_kept := h_kept) (h_worst := h_worst) (h_best := h_best) (h_worstRuns := h_worstRuns) (h_worstChoices := h_worstChoices) (h_ends := h_ends) (h_bound := h_bound) (h_under := h_under) (h_back := h_back) (b_sorts := b_sorts) (b_lows := b_lows) (b_highs := b_highs) (b_firsts := b_firsts) (b_seconds := b_seconds) (b_stack := b_stack) (b_pathsOf := b_pathsOf) (b_lengthOf := b_lengthOf) (b_choicesOf := b_choicesOf) (b_todo := b_todo) (b_cache := b_cache) (b_path := b_path) (b_tops := b_tops) (b_missed := b_missed) (b_struck := b_struck) (b_worstPath := b_worstPath) (b_mostMissed := b_mostMissed) (b_mostStruck := b_mostStruck) (b_leastMissed := b_leastMissed) (b_held := b_held) (b_contents := b_contents) (b_ages := b_ages) (b_phase := b_phase) (b_node := b_node) (b_sum := b_sum) (b_saved := b_saved) (b_greatest := b_greatest) (b_met := b_met) (b_unsure := b_unsure) (ma := root + 1) (post := fun r' v' => r' = nI (root + 1) ∧ i_Rel (k + 3) (f_setBits, f_placeCount, 0, 0, nI (min (g 5 root) 1000), nI (min (g 6 root) 1000), x3, x4, x5, nI bd, x6, x1, x2, a_kind, a_first, a_second, a_low, a_high, a_parent, a_pathsOf, a_lengthOf, a_choicesOf, a_stack, p7', sn, p8', p9', p10', l1, p11', p1', p2', p3', p4', p5', p6', tb, bf, be) v') (by omega) rfl (KY _ ?_) (root + 1) 0 (by omega)
    · rw [sw_0, sw_0, sw_0, sw_0, sw_0, sw_0, sw_0] at L
      rw [m1, m2]
      exact L
    · refine ⟨rfl, w, s, ⟨c1, c2, c3, c4, c5, c6, c7, c8⟩, rl_B0 (g := g), ⟨g, root + 1, en, by omega, by omega, rfl, ?_, ?_, rfl, fun n hn => ?_, K1, K2, K3⟩⟩
      · rw [Nat.add_sub_cancel, sw_lt (by omega)]; exact n1.symm
      · rw [Nat.add_sub_cancel, sw_lt (by omega)]; exact n2.symm
      · rw [sw_lt hn]; exact ⟨(YT n hn).1, pg_kd (T n hn)⟩
  · have n1 : ¬ nI he = 1 := by rw [show (1 : Int32) = nI 1 from rfl, nI_eq (by omega) (by omega)]; exact h1
    exact br_f n1 (br_f n1 ⟨rfl, I⟩)
end
section
/-! the new object -/
theorem hb_1 : ∀ x, x < 12 → ∀ y, y < 12 → ((nI x &&& nI (1 - 1)) = (nI y &&& nI (1 - 1)) ↔ x % 1 = y % 1) := by decide
theorem hb_2 : ∀ x, x < 12 → ∀ y, y < 12 → ((nI x &&& nI (2 - 1)) = (nI y &&& nI (2 - 1)) ↔ x % 2 = y % 2) := by decide
theorem hb_4 : ∀ x, x < 12 → ∀ y, y < 12 → ((nI x &&& nI (4 - 1)) = (nI y &&& nI (4 - 1)) ↔ x % 4 = y % 4) := by decide
theorem hb_s {s : Nat} (h : s = 1 ∨ s = 2 ∨ s = 4) : ∀ x y, x < 12 → y < 12 → ((nI x &&& nI (s - 1)) = (nI y &&& nI (s - 1)) ↔ x % s = y % s) := by
  intro x y hx hy
  rcases h with e | e | e
  · subst e; exact hb_1 x hx y hy
  · subst e; exact hb_2 x hx y hy
  · subst e; exact hb_4 x hx y hy
set_option maxHeartbeats 4000000 in
theorem vi_all {s w : Nat} (hs : s = 1 ∨ s = 2 ∨ s = 4) (hw0 : 0 < w) (hw : w ≤ 4) : ∃ (u : SX) (v : SY), i_Rel 2 u v ∧
    (∀ post : SX → Prop, post u → wX_init_258 post (nI w) (nI (s - 1)) 0 0 0 0 0 0 0 0 0 0 0 0 (fun _ => 0) (fun _ => 0) (fun _ => 0) (fun _ => 0) (fun _ => 0) (fun _ => 0) (fun _ => 0) (fun _ => 0) (fun _ => 0) (fun _ => 0) (fun _ => 0) (fun _ => 0) (fun _ => 0) (fun _ => 0) (fun _ => 0) (fun _ => 0) (fun _ => 0) (fun _ => 0) (fun _ => 0) (fun _ => 0) (fun _ => 0) (fun _ => 0) (fun _ => 0) (fun _ => 0) (fun _ => 0) (fun _ => 0)) ∧
    (∀ post : SY → Prop, post v → wY_init_282 post (nI w) (nI s) 0 0 0 0 0 0 0 0 0 0 0 0 0 0 0 0 (fun _ => 0) (fun _ => 0) (fun _ => 0) (fun _ => 0) (fun _ => 0) (fun _ => 0) (fun _ => 0) (fun _ => 0) (fun _ => 0) (fun _ => 0) (fun _ => 0) (fun _ => 0) (fun _ => 0) (fun _ => 0) (fun _ => 0) (fun _ => 0) (fun _ => 0) (fun _ => 0) (fun _ => 0) (fun _ => 0) (fun _ => 0) (fun _ => 0) (fun _ => 0) (fun _ => 0) (fun _ => 0) (fun _ => 0) (fun _ => 0) (fun _ => 0) (fun _ => 0)) := by
  have g0 : ∃ g : Nat → Nat → Nat, g = gh_n (fun _ _ => 0) 0 (gv_v 1 0 0 0 0 1 1 0 1 0) := ⟨_, rfl⟩
  obtain ⟨g, hg⟩ := g0
  have T : pg_t g (0 + 1) := by
    intro n hn
    have : n = 0 := by omega
    subst this
    rw [hg]
    exact pn_leaf (Or.inr ⟨rfl, by omega⟩)
  have gm : ∀ i, g i 0 = gv_v 1 0 0 0 0 1 1 0 1 0 i := fun i => by rw [hg]; exact gh_m i
  have XT : ∀ n, n ≤ 0 → xt_n g (upd (fun _ => 0) 0 1) (upd (fun _ => 0) 0 0) (upd (fun _ => 0) 0 0) (upd (fun _ => 0) 0 0) (upd (fun _ => 0) 0 0) (fun _ => 0) n := by
    intro n hn
    have : n = 0 := by omega
    subst this
    unfold xt_n
    rw [gm 0, gm 1, gm 2, gm 3, gm 4]
    exact ⟨rfl, rfl, rfl, rfl, fun h => absurd h (by decide), fun h => absurd h (by decide)⟩
  have YT : ∀ n, n ≤ 0 → yt_n g 0 (upd (fun _ => 0) 0 1) (fun _ => 0) (fun _ => 0) (fun _ => 0) (fun _ => 0) n := by
    intro n hn
    have : n = 0 := by omega
    subst this
    unfold yt_n
    rw [gm 0, gm 1, gm 2, gm 3, gm 4]
    exact ⟨rfl, fun _ => rfl, fun h => absurd h (by decide), fun h => absurd h (by decide), fun h => absurd h (by decide)⟩
  have hs0 : 0 < s := by omega
  have hs4 : s ≤ 4 := by omega
  obtain ⟨en, bd, x1, x2, x3, x4, x5, x6, y1, y2, y3, y4, y5, y6, y7, y8, y9, p1, p2, p3, p4, p5, p6, p7, p8, p9, p10, p11, q1, q2, q3, q4, q5, q6, q7, q8, q9, q10, q11, tb, bf, be, sn, ag, nd, ph, sm, sv, gr, me, us, l1, l2, K1, K2, K3, KX, KY⟩ := ad_all (g := g) (root := 0) (w := w) (s := s) (f_setBits := nI (s - 1)) (f_placeCount := nI w) (f_made := nI (0 + 1)) (f_height := nI (0 + 1)) (f_pathCount := 0) (f_greatestLength := 0) (f_worstTime := 0) (f_bestTime := 0) (f_worstCount := 0) (f_programBound := 0) (f_endingCount := 0) (f_chosen := 0) (f_time := 0) (a_kind := upd (fun _ => 0) 0 1) (a_first := upd (fun _ => 0) 0 0) (a_second := upd (fun _ => 0) 0 0) (a_low := upd (fun _ => 0) 0 0) (a_high := upd (fun _ => 0) 0 0) (a_parent := (fun _ => 0)) (a_pathsOf := upd (fun _ => 0) 0 (nI 1)) (a_lengthOf := upd (fun _ => 0) 0 (nI 1)) (a_choicesOf := upd (fun _ => 0) 0 (nI 0)) (a_stack := upd (fun _ => 0) 0 (nI 0)) (a_worstPath := (fun _ => 0)) (a_sureness := (fun _ => 0)) (a_mostMisses := (fun _ => 0)) (a_mostHits := (fun _ => 0)) (a_leastMisses := (fun _ => 0)) (a_endings := (fun _ => 0)) (a_runsHolding := (fun _ => 0)) (a_rounds := (fun _ => 0)) (a_path := (fun _ => 0)) (a_pathTop := (fun _ => 0)) (a_cache := (fun _ => 0)) (a_runMisses := (fun _ => 0)) (a_runHits := (fun _ => 0)) (a_table := (fun _ => 0)) (a_before := (fun _ => 0)) (a_behind := (fun _ => 0)) (h_sets := nI s) (h_places := nI w) (h_made := 0) (h_depth := 0) (h_size := nI (0 + 1)) (h_open := 0) (h_time := 0) (h_chosen := 0) (h_kept := 0) (h_worst := 0) (h_best := 0) (h_worstRuns := 0) (h_worstChoices := 0) (h_ends := 0) (h_bound := 0) (h_under := 0) (h_back := 0) (b_sorts := upd (fun _ => 0) 0 1) (b_lows := (fun _ => 0)) (b_highs := (fun _ => 0)) (b_firsts := (fun _ => 0)) (b_seconds := (fun _ => 0)) (b_stack := (fun _ => 0)) (b_pathsOf := upd (fun _ => 0) 0 1) (b_lengthOf := upd (fun _ => 0) 0 1) (b_choicesOf := (fun _ => 0)) (b_todo := (fun _ => 0)) (b_cache := (fun _ => 0)) (b_path := (fun _ => 0)) (b_tops := (fun _ => 0)) (b_missed := (fun _ => 0)) (b_struck := (fun _ => 0)) (b_worstPath := (fun _ => 0)) (b_mostMissed := (fun _ => 0)) (b_mostStruck := (fun _ => 0)) (b_leastMissed := (fun _ => 0)) (b_held := (fun _ => 0)) (b_contents := (fun _ => 0)) (b_ages := (fun _ => 0)) (b_phase := (fun _ => 0)) (b_node := (fun _ => 0)) (b_sum := (fun _ => 0)) (b_saved := (fun _ => 0)) (b_greatest := (fun _ => 0)) (b_met := (fun _ => 0)) (b_unsure := (fun _ => 0))
    T (by omega) hw0 hw hs0 hs4 (hb_s hs) rfl rfl rfl rfl rfl (by rw [gm 6]; decide) (by rw [gm 7]; decide) (by rw [gm 5]; decide) XT YT
  refine ⟨(nI (s - 1), nI w, 0, 0, upd (fun _ => 0) 0 (nI 1) 0, upd (fun _ => 0) 0 (nI 1) 0, x3, x4, x5, nI bd, x6, x1, x2, upd (fun _ => 0) 0 1, upd (fun _ => 0) 0 0, upd (fun _ => 0) 0 0, upd (fun _ => 0) 0 0, upd (fun _ => 0) 0 0, (fun _ => 0), upd (fun _ => 0) 0 (nI 1), upd (fun _ => 0) 0 (nI 1), upd (fun _ => 0) 0 (nI 0), upd (fun _ => 0) 0 (nI 0), p7, sn, p8, p9, p10, l1, p11, p1, p2, p3, p4, p5, p6, tb, bf, be), (nI s, nI w, 0, 0, nI (0 + 1), y1, y2, y3, y4, y5, y6, y7, y8, y9, nI bd, 0, nI bd, upd (fun _ => 0) 0 1, (fun _ => 0), (fun _ => 0), (fun _ => 0), (fun _ => 0), (fun _ => 0), upd (fun _ => 0) 0 1, upd (fun _ => 0) 0 1, (fun _ => 0), q1, q4, q2, q3, q5, q6, q7, q8, q9, q10, q11, l2, ag, ph, nd, sm, sv, gr, me, us), ?_, fun post H => ?_, fun post H => ?_⟩
  · refine ⟨w, s, ⟨hw0, hw, hs0, hs4, hb_s hs, rfl, rfl, rfl⟩, rl_B0 (g := g), ⟨g, 1, en, by omega, by omega, rfl, rfl, rfl, rfl, fun n hn => ?_, K1, K2, K3⟩⟩
    have : n = 0 := by omega
    subst this
    rw [gm 0]
    exact ⟨rfl, by decide⟩
  · unfold wX_init_258
    refine xp_leaf (m := 0) (h := 0) (by omega) (by omega) ?_
    refine KX _ ?_
    exact H
  · exact nm_e (nm_e (nm_e (KY _ H)))
theorem vi_x {post : SX → Prop} {k1 sb : Int32} {w : Nat} (hw : (k1 < 1 ∧ w = 1) ∨ (k1 = nI w ∧ 1 ≤ w ∧ w ≤ 4) ∨ (4 < k1 ∧ w = 4)) (H : wX_init_258 post (nI w) sb 0 0 0 0 0 0 0 0 0 0 0 0 (fun _ => 0) (fun _ => 0) (fun _ => 0) (fun _ => 0) (fun _ => 0) (fun _ => 0) (fun _ => 0) (fun _ => 0) (fun _ => 0) (fun _ => 0) (fun _ => 0) (fun _ => 0) (fun _ => 0) (fun _ => 0) (fun _ => 0) (fun _ => 0) (fun _ => 0) (fun _ => 0) (fun _ => 0) (fun _ => 0) (fun _ => 0) (fun _ => 0) (fun _ => 0) (fun _ => 0) (fun _ => 0) (fun _ => 0)) : wX_init_235 post k1 sb 0 0 0 0 0 0 0 0 0 0 0 0 0 (fun _ => 0) (fun _ => 0) (fun _ => 0) (fun _ => 0) (fun _ => 0) (fun _ => 0) (fun _ => 0) (fun _ => 0) (fun _ => 0) (fun _ => 0) (fun _ => 0) (fun _ => 0) (fun _ => 0) (fun _ => 0) (fun _ => 0) (fun _ => 0) (fun _ => 0) (fun _ => 0) (fun _ => 0) (fun _ => 0) (fun _ => 0) (fun _ => 0) (fun _ => 0) (fun _ => 0) (fun _ => 0) (fun _ => 0) := by
  rcases hw with ⟨h, e⟩ | ⟨h, e1, e2⟩ | ⟨h, e⟩
  · subst e
    exact br_f (Int32.not_le.mpr h) H
  · subst h
    exact br_t (nI_le (a := 1) e1 (by omega)) (br_t (nI_le (b := 4) e2 (by omega)) H)
  · subst e
    exact br_t (Int32.le_of_lt (Int32.lt_trans (by decide) h)) (br_f (Int32.not_le.mpr h) H)
theorem vi_y {post : SY → Prop} {k1 sb : Int32} {w : Nat} (hw : (k1 < 1 ∧ w = 1) ∨ (k1 = nI w ∧ 1 ≤ w ∧ w ≤ 4) ∨ (4 < k1 ∧ w = 4)) (H : wY_init_282 post (nI w) sb 0 0 0 0 0 0 0 0 0 0 0 0 0 0 0 0 (fun _ => 0) (fun _ => 0) (fun _ => 0) (fun _ => 0) (fun _ => 0) (fun _ => 0) (fun _ => 0) (fun _ => 0) (fun _ => 0) (fun _ => 0) (fun _ => 0) (fun _ => 0) (fun _ => 0) (fun _ => 0) (fun _ => 0) (fun _ => 0) (fun _ => 0) (fun _ => 0) (fun _ => 0) (fun _ => 0) (fun _ => 0) (fun _ => 0) (fun _ => 0) (fun _ => 0) (fun _ => 0) (fun _ => 0) (fun _ => 0) (fun _ => 0) (fun _ => 0)) : wY_init_259 post k1 sb 0 0 0 0 0 0 0 0 0 0 0 0 0 0 0 0 0 (fun _ => 0) (fun _ => 0) (fun _ => 0) (fun _ => 0) (fun _ => 0) (fun _ => 0) (fun _ => 0) (fun _ => 0) (fun _ => 0) (fun _ => 0) (fun _ => 0) (fun _ => 0) (fun _ => 0) (fun _ => 0) (fun _ => 0) (fun _ => 0) (fun _ => 0) (fun _ => 0) (fun _ => 0) (fun _ => 0) (fun _ => 0) (fun _ => 0) (fun _ => 0) (fun _ => 0) (fun _ => 0) (fun _ => 0) (fun _ => 0) (fun _ => 0) (fun _ => 0) := by
  rcases hw with ⟨h, e⟩ | ⟨h, e1, e2⟩ | ⟨h, e⟩
  · subst e
    exact br_f (Int32.not_le.mpr h) H
  · subst h
    exact br_t (nI_le (a := 1) e1 (by omega)) (br_t (nI_le (b := 4) e2 (by omega)) H)
  · subst e
    exact br_t (Int32.le_of_lt (Int32.lt_trans (by decide) h)) (br_f (Int32.not_le.mpr h) H)
theorem i_vc0 (k0 : Int32) (k1 : Int32) : wpX_init (fun u => wpY_init (fun v => i_Rel 2 u v) k0 k1) k0 k1 := by
  have hw : ∃ w : Nat, 0 < w ∧ w ≤ 4 ∧ ((k1 < 1 ∧ w = 1) ∨ (k1 = nI w ∧ 1 ≤ w ∧ w ≤ 4) ∨ (4 < k1 ∧ w = 4)) := by
    by_cases h : k1 < 1
    · exact ⟨1, by omega, by omega, Or.inl ⟨h, rfl⟩⟩
    · by_cases h4 : 4 < k1
      · exact ⟨4, by omega, by omega, Or.inr (Or.inr ⟨h4, rfl⟩)⟩
      · obtain ⟨j, hj, rfl⟩ := nI_of (x := k1) (fun z => h (Int32.lt_trans z (by decide)))
        have a := (nI_leI (a := 1) (by omega) hj).mp (Int32.not_lt.mp h)
        have b := (nI_leI (b := 4) hj (by omega)).mp (Int32.not_lt.mp h4)
        exact ⟨j, by omega, b, Or.inr (Or.inl ⟨rfl, a, b⟩)⟩
  obtain ⟨w, w0, w4, hw⟩ := hw
  by_cases h : 1 ≤ k0
  · by_cases h1 : k0 = 1
    · obtain ⟨u, v, R, HX, HY⟩ := vi_all (s := 2) (Or.inr (Or.inl rfl)) w0 w4
      exact br_t h (br_t h1 (vi_x hw (HX _ (br_t h (br_t h1 (vi_y hw (HY _ R)))))))
    · obtain ⟨u, v, R, HX, HY⟩ := vi_all (s := 4) (Or.inr (Or.inr rfl)) w0 w4
      exact br_t h (br_f h1 (vi_x hw (HX _ (br_t h (br_f h1 (vi_y hw (HY _ R)))))))
  · obtain ⟨u, v, R, HX, HY⟩ := vi_all (s := 1) (Or.inl rfl) w0 w4
    exact br_f h (vi_x hw (HX _ (br_f h (vi_y hw (HY _ R)))))
end
