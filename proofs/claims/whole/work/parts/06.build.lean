/-! the table of statements on both sides -/
def xt_n (g : Nat → Nat → Nat) (ki fi se lo hi pa : Nat → Int32) (n : Nat) : Prop :=
  ki n = nI (g 0 n) ∧ fi n = nI (g 1 n) ∧ lo n = nI (g 3 n) ∧ hi n = nI (g 4 n) ∧ (2 ≤ g 0 n → pa (g 1 n) = nI n) ∧ (g 0 n = 2 ∨ g 0 n = 3 → se n = nI (g 2 n) ∧ pa (g 2 n) = nI n)
def yt_n (g : Nat → Nat → Nat) (o : Nat) (so lo hi fi se : Nat → Int32) (n : Nat) : Prop :=
  so (o + n) = nI (g 0 n) ∧ (g 0 n ≤ 1 → lo (o + n) = nI (g 1 n)) ∧ (2 ≤ g 0 n → fi (o + n) = nI (g 1 n)) ∧ (g 0 n = 2 ∨ g 0 n = 3 → se (o + n) = nI (g 2 n)) ∧ (g 0 n = 4 → lo (o + n) = nI (g 3 n) ∧ hi (o + n) = nI (g 4 n))
def me_n (g : Nat → Nat → Nat) (o : Nat) (pa le co : Nat → Int32) (n : Nat) : Prop :=
  pa (o + n) = nI (min (g 5 n) 1000) ∧ le (o + n) = nI (min (g 6 n) 1000) ∧ co (o + n) = nI (min (g 7 n) 1000)
def sk_s (g : Nat → Nat → Nat) (ma he : Nat) (sk : Nat → Nat) : Prop :=
  he ≤ ma ∧ ma ≤ 18 ∧ (∀ i, i < he → sk i < ma) ∧ (0 < he → sk (he - 1) + 1 = ma) ∧ (∀ i, i + 1 < he → sk i + 1 = g 9 (sk (i + 1))) ∧ (∀ i j, i < j → j < he → sk i < sk j) ∧
  (∀ i n, i < he → n < ma → (2 ≤ g 0 n → g 1 n ≠ sk i) ∧ (g 0 n = 2 ∨ g 0 n = 3 → g 2 n ≠ sk i))
theorem pg_ext {g g' : Nat → Nat → Nat} {m : Nat} (e : ∀ i n, n < m → g' i n = g i n) (T : pg_t g m) : pg_t g' m := by
  intro n hn
  have N := T n hn
  have E : ∀ i, g' i n = g i n := fun i => e i n hn
  unfold pg_n at N ⊢
  simp only [E]
  refine ⟨N.1, N.2.1, ?_⟩
  rcases N.2.2 with h | h | h | h | h
  · exact Or.inl h
  · exact Or.inr (Or.inl h)
  · refine Or.inr (Or.inr (Or.inl ?_))
    have E1 : ∀ i, g' i (g 1 n) = g i (g 1 n) := fun i => e i _ (by omega)
    have E2 : ∀ i, g' i (g 2 n) = g i (g 2 n) := fun i => e i _ (by omega)
    simp only [E1, E2]
    exact h
  · refine Or.inr (Or.inr (Or.inr (Or.inl ?_)))
    have E1 : ∀ i, g' i (g 1 n) = g i (g 1 n) := fun i => e i _ (by omega)
    have E2 : ∀ i, g' i (g 2 n) = g i (g 2 n) := fun i => e i _ (by omega)
    simp only [E1, E2]
    exact h
  · refine Or.inr (Or.inr (Or.inr (Or.inr ?_)))
    have E1 : ∀ i, g' i (g 1 n) = g i (g 1 n) := fun i => e i _ (by omega)
    simp only [E1]
    exact h
theorem pg_ext1 {g g' : Nat → Nat → Nat} {m : Nat} (e : ∀ i n, n < m → g' i n = g i n) (T : pg_t g m) (N : pg_n g' m) : pg_t g' (m + 1) := by
  intro n hn
  rcases Nat.lt_or_ge n m with h | h
  · exact pg_ext e T n h
  · have : n = m := by omega
    subst this; exact N
/-- statement ma takes the place of the entries from b on -/
theorem nw_sk {g g' : Nat → Nat → Nat} {ma he b : Nat} {sk : Nat → Nat} (e : ∀ i n, n < ma → g' i n = g i n) (T : pg_t g ma) (S : sk_s g ma he sk) (hb : b ≤ he) (hm : ma < 18) (hL : 0 < b → sk (b - 1) + 1 = g' 9 ma)
    (hF : 2 ≤ g' 0 ma → ∃ i, b ≤ i ∧ i < he ∧ g' 1 ma = sk i) (hS : g' 0 ma = 2 ∨ g' 0 ma = 3 → ∃ i, b ≤ i ∧ i < he ∧ g' 2 ma = sk i) : sk_s g' (ma + 1) (b + 1) (fun i => if i = b then ma else sk i) := by
  obtain ⟨s1, s2, s3, s4, s5, s6, s7⟩ := S
  refine ⟨by omega, by omega, fun i hi => ?_, fun _ => ?_, fun i hi => ?_, fun i j hij hj => ?_, fun i n hi hn => ?_⟩
  · dsimp only
    by_cases z : i = b
    · rw [if_pos z]; omega
    · rw [if_neg z]; have := s3 i (by omega); omega
  · dsimp only
    rw [if_pos (by omega)]
  · dsimp only
    rw [if_neg (by omega)]
    by_cases z : i + 1 = b
    · rw [if_pos z, ← hL (by omega)]
      have : b - 1 = i := by omega
      rw [this]
    · rw [if_neg z, e _ _ (s3 _ (by omega))]
      exact s5 i (by omega)
  · dsimp only
    rw [if_neg (by omega)]
    by_cases z : j = b
    · rw [if_pos z]; exact s3 i (by omega)
    · rw [if_neg z]; exact s6 i j hij (by omega)
  · dsimp only
    rcases Nat.lt_or_ge n ma with h | h
    · rw [e 0 n h, e 1 n h, e 2 n h]
      by_cases z : i = b
      · rw [if_pos z]
        have N := (T n h).2.2
        refine ⟨fun k => ?_, fun k => ?_⟩
        · have : g 1 n < n := by
            rcases N with N | N | N | N | N <;> omega
          omega
        · have : g 2 n < n := by
            rcases N with N | N | N | N | N <;> omega
          omega
      · rw [if_neg z]; exact s7 i n (by omega) h
    · have hn' : n = ma := by omega
      subst hn'
      by_cases z : i = b
      · rw [if_pos z]
        refine ⟨fun k => ?_, fun k => ?_⟩
        · obtain ⟨x, -, x2, x3⟩ := hF k
          have := s3 x x2; omega
        · obtain ⟨x, -, x2, x3⟩ := hS k
          have := s3 x x2; omega
      · rw [if_neg z]
        refine ⟨fun k => ?_, fun k => ?_⟩
        · obtain ⟨x, x1, x2, x3⟩ := hF k
          have := s6 i x (by omega) x2; omega
        · obtain ⟨x, x1, x2, x3⟩ := hS k
          have := s6 i x (by omega) x2; omega
theorem nw_xt {g g' : Nat → Nat → Nat} {ma he b : Nat} {sk : Nat → Nat} {ki fi se lo hi pa ki' fi' se' lo' hi' pa' : Nat → Int32} (e : ∀ i n, n < ma → g' i n = g i n) (S : sk_s g ma he sk) (hb : b ≤ he)
    (X : ∀ n, n < ma → xt_n g ki fi se lo hi pa n) (N : xt_n g' ki' fi' se' lo' hi' pa' ma)
    (E : ∀ n, n < ma → ki' n = ki n ∧ fi' n = fi n ∧ se' n = se n ∧ lo' n = lo n ∧ hi' n = hi n) (P : ∀ x, (∀ i, b ≤ i → i < he → x ≠ sk i) → pa' x = pa x) : ∀ n, n < ma + 1 → xt_n g' ki' fi' se' lo' hi' pa' n := by
  intro n hn
  rcases Nat.lt_or_ge n ma with h | h
  · obtain ⟨x1, x2, x3, x4, x5, x6⟩ := X n h
    obtain ⟨e1, e2, e3, e4, e5⟩ := E n h
    unfold xt_n
    rw [e 0 n h, e 1 n h, e 2 n h, e 3 n h, e 4 n h, e1, e2, e3, e4, e5]
    refine ⟨x1, x2, x3, x4, fun k => ?_, fun k => ⟨(x6 k).1, ?_⟩⟩
    · rw [P _ fun i _ hi => (S.2.2.2.2.2.2 i n hi h).1 k]; exact x5 k
    · rw [P _ fun i _ hi => (S.2.2.2.2.2.2 i n hi h).2 k]; exact (x6 k).2
  · have : n = ma := by omega
    subst this; exact N
theorem nw_yt {g g' : Nat → Nat → Nat} {ma o : Nat} {so lo hi fi se so' lo' hi' fi' se' : Nat → Int32} (e : ∀ i n, n < ma → g' i n = g i n)
    (Y : ∀ n, n < ma → yt_n g o so lo hi fi se n) (N : yt_n g' o so' lo' hi' fi' se' ma)
    (E : ∀ n, n < ma → so' (o + n) = so (o + n) ∧ lo' (o + n) = lo (o + n) ∧ hi' (o + n) = hi (o + n) ∧ fi' (o + n) = fi (o + n) ∧ se' (o + n) = se (o + n)) : ∀ n, n < ma + 1 → yt_n g' o so' lo' hi' fi' se' n := by
  intro n hn
  rcases Nat.lt_or_ge n ma with h | h
  · have y := Y n h
    obtain ⟨e1, e2, e3, e4, e5⟩ := E n h
    unfold yt_n at y ⊢
    rw [e 0 n h, e 1 n h, e 2 n h, e 3 n h, e 4 n h, e1, e2, e3, e4, e5]
    exact y
  · have : n = ma := by omega
    subst this; exact N
theorem nw_me {g g' : Nat → Nat → Nat} {ma o : Nat} {pa le co pa' le' co' : Nat → Int32} (e : ∀ i n, n < ma → g' i n = g i n)
    (M : ∀ n, n < ma → me_n g o pa le co n) (N : me_n g' o pa' le' co' ma)
    (E : ∀ n, n < ma → pa' (o + n) = pa (o + n) ∧ le' (o + n) = le (o + n) ∧ co' (o + n) = co (o + n)) : ∀ n, n < ma + 1 → me_n g' o pa' le' co' n := by
  intro n hn
  rcases Nat.lt_or_ge n ma with h | h
  · have y := M n h
    obtain ⟨e1, e2, e3⟩ := E n h
    unfold me_n at y ⊢
    rw [e 5 n h, e 6 n h, e 7 n h, e1, e2, e3]
    exact y
  · have : n = ma := by omega
    subst this; exact N
/-- the ghost table with statement m put down -/
def gh_n (g : Nat → Nat → Nat) (m : Nat) (v : Nat → Nat) : Nat → Nat → Nat := fun i n => if n = m then v i else g i n
theorem gh_e {g : Nat → Nat → Nat} {m : Nat} {v : Nat → Nat} : ∀ i n, n < m → gh_n g m v i n = g i n := fun i n h => by
  show (if n = m then v i else g i n) = g i n
  rw [if_neg (by omega)]
theorem gh_m {g : Nat → Nat → Nat} {m : Nat} {v : Nat → Nat} (i : Nat) : gh_n g m v i m = v i := by
  show (if m = m then v i else g i m) = v i
  rw [if_pos rfl]
def gv_v (a0 a1 a2 a3 a4 a5 a6 a7 a8 a9 : Nat) : Nat → Nat
  | 0 => a0 | 1 => a1 | 2 => a2 | 3 => a3 | 4 => a4 | 5 => a5 | 6 => a6 | 7 => a7 | 8 => a8 | 9 => a9 | _ => 0
