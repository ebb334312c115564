def lm_ok (g : Nat → Nat → Nat) (q : Nat → Int32) (n t : Nat) : Prop := ∃ k, q t = nI k ∧ g 3 n ≤ k ∧ k ≤ g 4 n
def lm_V (g : Nat → Nat → Nat) (q : Nat → Int32) (r j : Nat) : Prop := ∀ a, a < j → ∀ n K t c, lm_cf g q r a = (n :: K, t, c) → lm_ch g n → lm_ok g q n t
theorem pg_kd {g : Nat → Nat → Nat} {n : Nat} (h : pg_n g n) : g 0 n ≤ 4 := by
  obtain ⟨-, -, h | h | h | h | h⟩ := h <;> omega
theorem lm_step {g : Nat → Nat → Nat} {q : Nat → Int32} {n t c : Nat} {K : List Nat} (N : pg_n g n) (V : lm_ch g n → lm_ok g q n t) :
    (lm_st g q (n :: K, t, c)).2.2 + lm_c g (lm_st g q (n :: K, t, c)).1 ≤ c + lm_c g (n :: K) ∧
    (lm_st g q (n :: K, t, c)).2.1 + lm_k g (lm_st g q (n :: K, t, c)).1 ≤ t + lm_k g (n :: K) ∧
    lm_m g (lm_st g q (n :: K, t, c)).1 + 1 ≤ lm_m g (n :: K) := by
  obtain ⟨-, hp, h | h | h | h | h⟩ := N
  · obtain ⟨h0, -, -, -, -, p1, -, c1, m1⟩ := h
    rw [lm_leaf (by omega)]
    dsimp only [lm_c, lm_k, lm_m]
    rw [p1, c1, m1]
    omega
  · obtain ⟨h0, -, -, -, -, p1, -, c1, m1⟩ := h
    rw [lm_leaf (by omega)]
    dsimp only [lm_c, lm_k, lm_m]
    rw [p1, c1, m1]
    omega
  · obtain ⟨h0, -, -, -, -, -, -, p1, -, c1, m1⟩ := h
    rw [lm_seq h0]
    dsimp only [lm_c, lm_k, lm_m]
    rw [p1, c1, m1, Nat.mul_assoc]
    omega
  · obtain ⟨h0, -, -, -, -, -, -, p1, -, c1, m1⟩ := h
    obtain ⟨k, e, -, -⟩ := V (Or.inl h0)
    have b1 := Nat.le_max_left (g 7 (g 1 n)) (g 7 (g 2 n))
    have b2 := Nat.le_max_right (g 7 (g 1 n)) (g 7 (g 2 n))
    by_cases z : q t = 0
    · rw [lm_if0 h0 z]
      dsimp only [lm_c, lm_k, lm_m]
      rw [p1, c1, m1, Nat.add_mul]
      generalize max (g 7 (g 1 n)) (g 7 (g 2 n)) = mx at *
      omega
    · rw [lm_if1 h0 z]
      dsimp only [lm_c, lm_k, lm_m]
      rw [p1, c1, m1, Nat.add_mul]
      generalize max (g 7 (g 1 n)) (g 7 (g 2 n)) = mx at *
      omega
  · obtain ⟨h0, -, -, hl, h4, p1, -, c1, m1⟩ := h
    by_cases z : g 3 n < g 4 n
    · obtain ⟨k, e, k1, k2⟩ := V (Or.inr ⟨by omega, z⟩)
      rw [lm_lp1 h0 z e (by omega)]
      dsimp only
      rw [lm_c_rep, lm_k_rep, lm_m_rep]
      dsimp only [lm_c, lm_k, lm_m]
      rw [p1, c1, m1, if_pos z]
      have a1 : ps_s (g 5 (g 1 n)) (g 3 n) k * lm_c g K + g 5 (g 1 n) ^ k * lm_c g K ≤ ps_s (g 5 (g 1 n)) (g 3 n) (g 4 n + 1) * lm_c g K := by
        rw [← Nat.add_mul, ← ps_next k1]
        exact Nat.mul_le_mul_right _ (ps_mono _ _ (by omega))
      have a2 : k * g 7 (g 1 n) ≤ g 4 n * g 7 (g 1 n) := Nat.mul_le_mul_right _ k2
      have a3 : k * g 8 (g 1 n) ≤ g 4 n * g 8 (g 1 n) := Nat.mul_le_mul_right _ k2
      omega
    · rw [lm_lp0 h0 z]
      dsimp only
      rw [lm_c_rep, lm_k_rep, lm_m_rep]
      dsimp only [lm_c, lm_k, lm_m]
      rw [p1, c1, m1, if_neg z]
      have e : g 3 n = g 4 n := by omega
      rw [e]
      have a1 : g 5 (g 1 n) ^ g 4 n * lm_c g K ≤ ps_s (g 5 (g 1 n)) (g 4 n) (g 4 n + 1) * lm_c g K := by
        rw [ps_next (Nat.le_refl _)]
        exact Nat.mul_le_mul_right _ (by omega)
      omega
theorem lm_mem {g : Nat → Nat → Nat} {q : Nat → Int32} {m n t c : Nat} {K : List Nat} (N : pg_n g n) (hn : n < m) (hK : ∀ x, x ∈ K → x < m) : ∀ x, x ∈ (lm_st g q (n :: K, t, c)).1 → x < m := by
  intro x hx
  obtain ⟨-, hp, h | h | h | h | h⟩ := N
  · rw [lm_leaf (by omega)] at hx; exact hK x hx
  · rw [lm_leaf (by omega)] at hx; exact hK x hx
  · obtain ⟨h0, h1, h2, -⟩ := h
    rw [lm_seq h0] at hx
    rcases List.mem_cons.mp hx with e | hx
    · omega
    · rcases List.mem_cons.mp hx with e | hx
      · omega
      · exact hK x hx
  · obtain ⟨h0, h1, h2, -⟩ := h
    by_cases z : q t = 0
    · rw [lm_if0 h0 z] at hx
      rcases List.mem_cons.mp hx with e | hx
      · omega
      · exact hK x hx
    · rw [lm_if1 h0 z] at hx
      rcases List.mem_cons.mp hx with e | hx
      · omega
      · exact hK x hx
  · obtain ⟨h0, h1, -⟩ := h
    by_cases z : g 3 n < g 4 n
    · unfold lm_st at hx
      dsimp only at hx
      rw [if_neg (by omega), if_neg (by omega), if_neg (by omega), if_pos z] at hx
      rcases List.mem_append.mp hx with hx | hx
      · have := List.eq_of_mem_replicate hx; omega
      · exact hK x hx
    · rw [lm_lp0 h0 z] at hx
      rcases List.mem_append.mp hx with hx | hx
      · have := List.eq_of_mem_replicate hx; omega
      · exact hK x hx
theorem lm_mems {g : Nat → Nat → Nat} {q : Nat → Int32} {m r : Nat} (T : pg_t g m) (hr : r < m) : ∀ j, ∀ x, x ∈ (lm_cf g q r j).1 → x < m := by
  intro j
  induction j with
  | zero => intro x hx; have := List.mem_singleton.mp hx; omega
  | succ j ih =>
    generalize e : lm_cf g q r j = y at ih
    obtain ⟨L, t, c⟩ := y
    show ∀ x, x ∈ (lm_st g q (lm_cf g q r j)).1 → x < m
    rw [e]
    cases L with
    | nil => exact ih
    | cons n K =>
      have hn : n < m := ih n List.mem_cons_self
      exact lm_mem (T n hn) hn fun x hx => ih x (List.mem_cons_of_mem _ hx)
theorem lm_anti {g : Nat → Nat → Nat} {q : Nat → Int32} {m r : Nat} (T : pg_t g m) (hr : r < m) {i : Nat} : ∀ j, i ≤ j → lm_V g q r j → (lm_cf g q r j).2.2 + lm_c g (lm_cf g q r j).1 ≤ (lm_cf g q r i).2.2 + lm_c g (lm_cf g q r i).1 := by
  intro j
  induction j with
  | zero => intro h _; have : i = 0 := by omega
            subst this; exact Nat.le_refl _
  | succ j ih =>
    intro h V
    rcases Nat.lt_or_ge i (j + 1) with h1 | h1
    · have a := ih (by omega) (fun a ha => V a (by omega))
      refine Nat.le_trans ?_ a
      have hm := lm_mems (q := q) T hr j
      have W := V j (by omega)
      show (lm_st g q (lm_cf g q r j)).2.2 + lm_c g (lm_st g q (lm_cf g q r j)).1 ≤ _
      generalize lm_cf g q r j = y at hm W
      obtain ⟨L, t, c⟩ := y
      cases L with
      | nil => exact Nat.le_refl _
      | cons n K => exact (lm_step (T n (hm n List.mem_cons_self)) (W n K t c rfl)).1
    · have : i = j + 1 := by omega
      subst this; exact Nat.le_refl _
theorem lm_up {g : Nat → Nat → Nat} {q : Nat → Int32} (x : List Nat × Nat × Nat) (h : x.2.1 < (lm_st g q x).2.1) : ∃ n K, x.1 = n :: K ∧ lm_ch g n := by
  obtain ⟨L, t, c⟩ := x
  cases L with
  | nil => dsimp only [lm_st] at h; omega
  | cons n K =>
    refine ⟨n, K, rfl, ?_⟩
    unfold lm_st at h
    dsimp only at h
    by_cases h1 : g 0 n ≤ 1
    · rw [if_pos h1] at h; dsimp only at h; omega
    · rw [if_neg h1] at h
      by_cases h2 : g 0 n = 2
      · rw [if_pos h2] at h; dsimp only at h; omega
      · rw [if_neg h2] at h
        by_cases h3 : g 0 n = 3
        · exact Or.inl h3
        · rw [if_neg h3] at h
          by_cases h4 : g 3 n < g 4 n
          · exact Or.inr ⟨by omega, h4⟩
          · rw [if_neg h4] at h; dsimp only at h; omega
theorem lm_vis {g : Nat → Nat → Nat} {q : Nat → Int32} {r s : Nat} : ∀ j, s < (lm_cf g q r j).2.1 → ∃ a, a < j ∧ ∃ n K c, lm_cf g q r a = (n :: K, s, c) ∧ lm_ch g n := by
  intro j
  induction j with
  | zero => intro h; exact absurd h (Nat.not_lt_zero _)
  | succ j ih =>
    intro h
    rcases Nat.lt_or_ge s (lm_cf g q r j).2.1 with h1 | h1
    · obtain ⟨a, ha, w⟩ := ih h1
      exact ⟨a, by omega, w⟩
    · have u := lm_t (g := g) (q := q) (lm_cf g q r j)
      have h' : s < (lm_st g q (lm_cf g q r j)).2.1 := h
      obtain ⟨n, K, e1, e2⟩ := lm_up (g := g) (q := q) (lm_cf g q r j) (by omega)
      refine ⟨j, by omega, n, K, (lm_cf g q r j).2.2, ?_, e2⟩
      have e3 : s = (lm_cf g q r j).2.1 := by omega
      rw [e3, ← e1]
theorem lm_nil {g : Nat → Nat → Nat} {q : Nat → Int32} {r i t c : Nat} (h : lm_cf g q r i = ([], t, c)) : ∀ d, lm_cf g q r (i + d) = ([], t, c) := by
  intro d
  induction d with
  | zero => exact h
  | succ d ih => show lm_st g q (lm_cf g q r (i + d)) = _
                 rw [ih]; rfl
def lm_pre (g : Nat → Nat → Nat) (q : Nat → Int32) (r kept R : Nat) : Prop :=
  (∀ a n K t c, lm_cf g q r a = (n :: K, t, c) → lm_ch g n → t < kept → lm_ok g q n t) ∧
  (∀ s, s < kept → ∃ a n K c, lm_cf g q r a = (n :: K, s, c) ∧ lm_ch g n) ∧
  (∃ a, R ≤ (lm_cf g q r a).2.2 ∧ (lm_cf g q r a).2.1 ≤ kept)
theorem lm_pre0 (g : Nat → Nat → Nat) (q : Nat → Int32) (r : Nat) : lm_pre g q r 0 0 :=
  ⟨fun _ _ _ _ _ _ _ h => absurd h (Nat.not_lt_zero _), fun _ h => absurd h (Nat.not_lt_zero _), 0, Nat.zero_le _, Nat.zero_le _⟩
theorem lm_done {g : Nat → Nat → Nat} {q p : Nat → Int32} {m r kept R i t c : Nat} (T : pg_t g m) (hr : r < m) (Pr : lm_pre g q r kept R) (hq : ∀ k, k < kept → q k = p k) (hi : lm_cf g p r i = ([], t, c)) (V : lm_V g p r i) : kept ≤ t ∧ R ≤ c ∧ c < g 5 r := by
  obtain ⟨-, P2, a, P3, P4⟩ := Pr
  refine ⟨?_, ?_, ?_⟩
  · rcases Nat.lt_or_ge t kept with z | z
    · exfalso
      obtain ⟨b, n, K, c', e, hc⟩ := P2 (kept - 1) (by omega)
      have e' : lm_cf g p r b = (n :: K, kept - 1, c') := by
        rw [← e]
        refine lm_eq b fun k hk => hq k ?_
        rw [e] at hk; dsimp only at hk; omega
      rcases Nat.lt_or_ge b i with y | y
      · have u1 : lm_cf g p r (b + 1) = lm_st g p (n :: K, kept - 1, c') := by rw [← e']; rfl
        have u2 := (lm_tmono (g := g) (q := p) (r := r) (show b + 1 ≤ i by omega)).1
        rw [hi, u1] at u2
        have u3 : kept - 1 < (lm_st g p (n :: K, kept - 1, c')).2.1 := by
          unfold lm_st
          dsimp only
          rcases hc with hc | ⟨hc, hl⟩
          · rw [if_neg (by omega), if_neg (by omega), if_pos hc]
            by_cases z0 : p (kept - 1) = 0
            · rw [if_pos z0]; dsimp only; omega
            · rw [if_neg z0]; dsimp only; omega
          · rw [if_neg (by omega), if_neg (by omega), if_neg (by omega), if_pos hl]; dsimp only; omega
        dsimp only at u2
        omega
      · have u := lm_nil hi (b - i)
        rw [show i + (b - i) = b by omega, e'] at u
        cases u
    · exact z
  · have e' : lm_cf g p r a = lm_cf g q r a := lm_eq a fun k hk => hq k (by omega)
    rw [← e'] at P3
    rcases Nat.lt_or_ge i a with y | y
    · have u := lm_nil hi (a - i)
      rw [show i + (a - i) = a by omega] at u
      rw [u] at P3; exact P3
    · have u := (lm_tmono (g := g) (q := p) (r := r) y).2
      rw [hi] at u
      exact Nat.le_trans P3 u
  · have u := lm_anti T hr (i := 0) i (by omega) V
    rw [hi] at u
    have e0 : lm_cf g p r 0 = ([r], 0, 0) := rfl
    rw [e0] at u
    dsimp only [lm_c] at u
    omega
theorem lm_inc {g : Nat → Nat → Nat} {p q : Nat → Int32} {n t c k : Nat} {K : List Nat} (N : pg_n g n) (hc : lm_ch g n) (h1 : p t = nI k) (h2 : q t = nI (k + 1)) (hl : g 3 n ≤ k) (hh : k < g 4 n) : (lm_st g q (n :: K, t, c)).2.2 = (lm_st g p (n :: K, t, c)).2.2 + lm_c g (lm_st g p (n :: K, t, c)).1 := by
  obtain ⟨-, hp, h | h | h | h | h⟩ := N
  · exfalso; unfold lm_ch at hc; omega
  · exfalso; unfold lm_ch at hc; omega
  · exfalso; unfold lm_ch at hc; omega
  · obtain ⟨h0, -, -, -, -, -, hg, -⟩ := h
    have hk : k = 0 := by omega
    subst hk
    rw [lm_if0 (q := p) h0 (by rw [h1]; rfl), lm_if1 (q := q) h0 (by rw [h2]; decide)]
    rfl
  · obtain ⟨h0, -, -, -, h4, -⟩ := h
    have z : g 3 n < g 4 n := by omega
    rw [lm_lp1 h0 z h1 (by omega), lm_lp1 h0 z h2 (by omega)]
    dsimp only
    rw [lm_c_rep, ps_next hl, Nat.add_mul]
    omega
theorem lm_next {g : Nat → Nat → Nat} {p q tp : Nat → Int32} {m r i t c s k : Nat} (T : pg_t g m) (hr : r < m) (hi : lm_cf g p r i = ([], t, c)) (V : lm_V g p r i)
    (hT : ∀ a, a < i → ∀ n K t c, lm_cf g p r a = (n :: K, t, c) → lm_ch g n → tp t = nI (g 4 n)) (hs : s < t) (h1 : p s = nI k) (h2 : q s = nI (k + 1)) (hk : k < 2 ^ 30) (hlt : p s < tp s) (hq : ∀ k, k < s → p k = q k) : lm_pre g q r (s + 1) (c + 1) := by
  have hs' : s < (lm_cf g p r i).2.1 := by rw [hi]; exact hs
  obtain ⟨a, ha, n, K, c', e, hc⟩ := lm_vis i hs'
  have same : ∀ b, (lm_cf g q r b).2.1 ≤ s → lm_cf g p r b = lm_cf g q r b := fun b hb => lm_eq b fun k hk => (hq k (by omega)).symm
  have same' : ∀ b, (lm_cf g p r b).2.1 ≤ s → lm_cf g q r b = lm_cf g p r b := fun b hb => lm_eq b fun k hk => hq k (by omega)
  have hn : n < m := lm_mems (q := p) T hr a n (by rw [e]; exact List.mem_cons_self)
  have key : ∀ b n' K' c'', lm_cf g p r b = (n' :: K', s, c'') → lm_ch g n' → b = a := by
    intro b n' K' c'' e2 hc2
    rcases Nat.lt_trichotomy b a with y | y | y
    · exfalso
      have u1 : lm_cf g p r (b + 1) = lm_st g p (n' :: K', s, c'') := by rw [← e2]; rfl
      have u2 := (lm_tmono (g := g) (q := p) (r := r) (show b + 1 ≤ a by omega)).1
      rw [e, u1] at u2
      have u3 : s < (lm_st g p (n' :: K', s, c'')).2.1 := by
        unfold lm_st
        dsimp only
        rcases hc2 with hc | ⟨hc, hl⟩
        · rw [if_neg (by omega), if_neg (by omega), if_pos hc]
          by_cases z0 : p s = 0
          · rw [if_pos z0]; dsimp only; omega
          · rw [if_neg z0]; dsimp only; omega
        · rw [if_neg (by omega), if_neg (by omega), if_neg (by omega), if_pos hl]; dsimp only; omega
      dsimp only at u2
      omega
    · exact y
    · exfalso
      have u1 : lm_cf g p r (a + 1) = lm_st g p (n :: K, s, c') := by rw [← e]; rfl
      have u2 := (lm_tmono (g := g) (q := p) (r := r) (show a + 1 ≤ b by omega)).1
      rw [e2, u1] at u2
      have u3 : s < (lm_st g p (n :: K, s, c')).2.1 := by
        unfold lm_st
        dsimp only
        rcases hc with hc | ⟨hc, hl⟩
        · rw [if_neg (by omega), if_neg (by omega), if_pos hc]
          by_cases z0 : p s = 0
          · rw [if_pos z0]; dsimp only; omega
          · rw [if_neg z0]; dsimp only; omega
        · rw [if_neg (by omega), if_neg (by omega), if_neg (by omega), if_pos hl]; dsimp only; omega
      dsimp only at u2
      omega
  have ok : g 3 n ≤ k ∧ k < g 4 n := by
    obtain ⟨k', e1, l1, l2⟩ := V a ha n K s c' e hc
    have h4 : g 4 n < 2 ^ 31 := by
      obtain ⟨-, -, h | h | h | h | h⟩ := T n hn <;> omega
    rw [h1, nI_eq (by omega) (by omega)] at e1
    subst e1
    have u := hT a ha n K s c' e hc
    rw [h1, u, nI_ltI (by omega) (by omega)] at hlt
    exact ⟨l1, hlt⟩
  refine ⟨?_, ?_, ?_⟩
  · intro b n' K' t' c'' e2 hc2 ht
    have e3 : lm_cf g p r b = (n' :: K', t', c'') := by
      rw [← e2]; exact same b (by rw [e2]; dsimp only; omega)
    rcases Nat.lt_or_ge t' s with y | y
    · have hb : b < i := by
        rcases Nat.lt_or_ge b i with z | z
        · exact z
        · have u := lm_nil hi (b - i)
          rw [show i + (b - i) = b by omega, e3] at u
          cases u
      obtain ⟨k', w1, w2⟩ := V b hb n' K' t' c'' e3 hc2
      exact ⟨k', by rw [← hq t' y]; exact w1, w2⟩
    · have ht' : t' = s := by omega
      subst ht'
      have hb := key b n' K' c'' e3 hc2
      subst hb
      rw [e] at e3
      cases e3
      exact ⟨k + 1, h2, by omega, by omega⟩
  · intro s' hs2
    rcases Nat.lt_or_ge s' s with y | y
    · obtain ⟨b, hb, n', K', c'', e2, hc2⟩ := lm_vis (g := g) (q := p) (r := r) (s := s') i (by rw [hi]; dsimp only; omega)
      exact ⟨b, n', K', c'', by rw [← e2]; exact same' b (by rw [e2]; dsimp only; omega), hc2⟩
    · have : s' = s := by omega
      subst this
      exact ⟨a, n, K, c', by rw [← e]; exact same' a (by rw [e]; exact Nat.le_refl _), hc⟩
  · refine ⟨a + 1, ?_, ?_⟩
    · have e2 : lm_cf g q r (a + 1) = lm_st g q (n :: K, s, c') := by
        show lm_st g q (lm_cf g q r a) = _
        rw [same' a (by rw [e]; exact Nat.le_refl _), e]
      have e3 : lm_cf g p r (a + 1) = lm_st g p (n :: K, s, c') := by
        show lm_st g p (lm_cf g p r a) = _
        rw [e]
      rw [e2, lm_inc (T n hn) hc h1 h2 ok.1 ok.2, ← e3]
      have u := lm_anti T hr (i := a + 1) i (by omega) V
      rw [hi] at u
      dsimp only [lm_c] at u
      omega
    · have e2 : lm_cf g q r (a + 1) = lm_st g q (n :: K, s, c') := by
        show lm_st g q (lm_cf g q r a) = _
        rw [same' a (by rw [e]; exact Nat.le_refl _), e]
      rw [e2]
      have u := lm_t (g := g) (q := q) (n :: K, s, c')
      exact u.2.1
