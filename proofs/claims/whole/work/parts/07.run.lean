/-! what holds in the midst of a run -/
def rn_I (g : Nat → Nat → Nat) (root w s kept : Nat) (q0 : Nat → Int32) (i t c : Nat) (L : List Nat) (pa pt ca mi hi ypa yto yca ymi yst : Nat → Int32) : Prop :=
  lm_cf g pa root i = (L, t, c) ∧ lm_V g pa root i ∧
  (∀ a, a < i → ∀ n K t c, lm_cf g pa root a = (n :: K, t, c) → lm_ch g n → pt t = nI (g 4 n) ∧ yto t = nI (g 4 n)) ∧
  t + lm_k g L ≤ 20 ∧ (∀ k, k < kept → q0 k = pa k) ∧
  (∀ k, k < 20 → (k < kept ∨ k < t → ypa k = pa k) ∧ (¬ (k < kept ∨ k < t) → pa k = -4)) ∧
  cr_R w s ca yca ∧ (∀ n, n < 18 → mi n = ymi n ∧ hi n = yst n) ∧ kept ≤ 20
theorem rn_eq1 {g : Nat → Nat → Nat} {pa : Nat → Int32} {root i : Nat} {x : List Nat × Nat × Nat} (h : lm_cf g pa root i = x) : lm_cf g pa root (i + 1) = lm_st g pa x := by
  rw [← h]; rfl
theorem rn_step {g : Nat → Nat → Nat} {root w s kept : Nat} {q0 : Nat → Int32} {i t c n : Nat} {K L' : List Nat} {pa pt ca mi hi ypa yto yca ymi yst ca' mi' hi' yca' ymi' yst' : Nat → Int32} (N : pg_n g n)
    (I : rn_I g root w s kept q0 i t c (n :: K) pa pt ca mi hi ypa yto yca ymi yst) (nc : ¬ lm_ch g n) (e : lm_st g pa (n :: K, t, c) = (L', t, c))
    (R : cr_R w s ca' yca') (M : ∀ n, n < 18 → mi' n = ymi' n ∧ hi' n = yst' n) : rn_I g root w s kept q0 (i + 1) t c L' pa pt ca' mi' hi' ypa yto yca' ymi' yst' := by
  obtain ⟨h1, h2, h3, h4, h5, h6, h7, h8, h9⟩ := I
  refine ⟨?_, ?_, ?_, ?_, h5, h6, R, M, h9⟩
  · rw [rn_eq1 h1, e]
  · intro a ha n' K' t' c' e' hc
    rcases Nat.lt_or_ge a i with z | z
    · exact h2 a z n' K' t' c' e' hc
    · have : a = i := by omega
      subst this
      rw [h1] at e'
      cases e'
      exact absurd hc nc
  · intro a ha n' K' t' c' e' hc
    rcases Nat.lt_or_ge a i with z | z
    · exact h3 a z n' K' t' c' e' hc
    · have : a = i := by omega
      subst this
      rw [h1] at e'
      cases e'
      exact absurd hc nc
  · have u := (lm_step (q := pa) (t := t) (c := c) (K := K) N (fun hc => absurd hc nc)).2.1
    rw [e] at u
    dsimp only at u
    omega
theorem rn_new {g : Nat → Nat → Nat} {root w s kept R : Nat} {q0 : Nat → Int32} {i t c n : Nat} {K : List Nat} {pa pt ca mi hi ypa yto yca ymi yst : Nat → Int32} (N : pg_n g n)
    (I : rn_I g root w s kept q0 i t c (n :: K) pa pt ca mi hi ypa yto yca ymi yst) (Pr : lm_pre g q0 root kept R) (hc : lm_ch g n) :
    t < 20 ∧ ((t < kept ∧ ∃ k, pa t = nI k ∧ ypa t = nI k ∧ g 3 n ≤ k ∧ k ≤ g 4 n) ∨ (¬ t < kept ∧ pa t = -4)) := by
  obtain ⟨h1, h2, h3, h4, h5, h6, h7, h8, h9⟩ := I
  have ht : t < 20 := by
    have : 1 ≤ g 7 n := by
      obtain ⟨-, -, N | N | N | N | N⟩ := N
      · unfold lm_ch at hc; omega
      · unfold lm_ch at hc; omega
      · unfold lm_ch at hc; omega
      · omega
      · have : g 3 n < g 4 n := by unfold lm_ch at hc; omega
        rw [N.2.2.2.2.2.2.2.1, if_pos this]; omega
    dsimp only [lm_k] at h4
    omega
  refine ⟨ht, ?_⟩
  by_cases z : t < kept
  · refine Or.inl ⟨z, ?_⟩
    have e : lm_cf g q0 root i = (n :: K, t, c) := by
      rw [← h1]
      refine lm_eq i fun k hk => (h5 k ?_).symm
      rw [h1] at hk; dsimp only at hk; omega
    obtain ⟨k, k1, k2⟩ := Pr.1 i n K t c e hc z
    rw [h5 t z] at k1
    exact ⟨k, k1, by rw [(h6 t ht).1 (Or.inl z)]; exact k1, k2⟩
  · exact Or.inr ⟨z, (h6 t ht).2 (by omega)⟩
/-- after a choice: pa', pt' and ypa', yto' as the two methods leave them -/
theorem rn_cho {g : Nat → Nat → Nat} {root w s kept : Nat} {q0 : Nat → Int32} {i t c n k : Nat} {K : List Nat} {pa pt ca mi hi ypa yto yca ymi yst pa' pt' ypa' yto' : Nat → Int32} (N : pg_n g n)
    (I : rn_I g root w s kept q0 i t c (n :: K) pa pt ca mi hi ypa yto yca ymi yst) (hc : lm_ch g n) (ht : t < 20)
    (e1 : pa' t = nI k) (e2 : ypa' t = nI k) (hk : g 3 n ≤ k ∧ k ≤ g 4 n) (e3 : ∀ x, x ≠ t → pa' x = pa x ∧ ypa' x = ypa x) (e4 : t < kept → pa' = pa)
    (e5 : pt' t = nI (g 4 n) ∧ yto' t = nI (g 4 n)) (e6 : ∀ x, x ≠ t → pt' x = pt x ∧ yto' x = yto x) {L' : List Nat} {c' : Nat} (e7 : lm_st g pa' (n :: K, t, c) = (L', t + 1, c')) :
    rn_I g root w s kept q0 (i + 1) (t + 1) c' L' pa' pt' ca mi hi ypa' yto' yca ymi yst := by
  obtain ⟨h1, h2, h3, h4, h5, h6, h7, h8, h9⟩ := I
  have below : ∀ a, a ≤ i → lm_cf g pa' root a = lm_cf g pa root a := by
    intro a ha
    refine lm_eq a fun x hx => ?_
    have u := (lm_tmono (g := g) (q := pa) (r := root) ha).1
    rw [h1] at u
    dsimp only at u
    exact ((e3 x (by omega)).1).symm
  have tlt : ∀ a, a < i → ∀ n' K' t' c', lm_cf g pa root a = (n' :: K', t', c') → lm_ch g n' → t' < t := by
    intro a ha n' K' t' c' e hc'
    have u := (lm_tmono (g := g) (q := pa) (r := root) (show a + 1 ≤ i by omega)).1
    rw [h1, rn_eq1 e] at u
    dsimp only at u
    have u3 : t' < (lm_st g pa (n' :: K', t', c')).2.1 := by
      unfold lm_st
      dsimp only
      rcases hc' with hc | ⟨hc, hl⟩
      · rw [if_neg (by omega), if_neg (by omega), if_pos hc]
        by_cases z0 : pa t' = 0
        · rw [if_pos z0]; dsimp only; omega
        · rw [if_neg z0]; dsimp only; omega
      · rw [if_neg (by omega), if_neg (by omega), if_neg (by omega), if_pos hl]; dsimp only; omega
    omega
  refine ⟨?_, ?_, ?_, ?_, ?_, ?_, h7, h8, h9⟩
  · rw [rn_eq1 (below i (Nat.le_refl _)), h1, e7]
  · intro a ha n' K' t' c'' e hc'
    rw [below a (by omega)] at e
    rcases Nat.lt_or_ge a i with z | z
    · obtain ⟨k', k1, k2⟩ := h2 a z n' K' t' c'' e hc'
      have := tlt a z n' K' t' c'' e hc'
      exact ⟨k', by rw [(e3 t' (by omega)).1]; exact k1, k2⟩
    · have : a = i := by omega
      subst this
      rw [h1] at e
      cases e
      exact ⟨k, e1, hk.1, hk.2⟩
  · intro a ha n' K' t' c'' e hc'
    rw [below a (by omega)] at e
    rcases Nat.lt_or_ge a i with z | z
    · have := tlt a z n' K' t' c'' e hc'
      rw [(e6 t' (by omega)).1, (e6 t' (by omega)).2]
      exact h3 a z n' K' t' c'' e hc'
    · have : a = i := by omega
      subst this
      rw [h1] at e
      cases e
      exact e5
  · have u := (lm_step (q := pa') (t := t) (c := c) (K := K) N (fun _ => ⟨k, e1, hk.1, hk.2⟩)).2.1
    rw [e7] at u
    dsimp only at u
    omega
  · intro x hx
    by_cases z : x = t
    · subst z; rw [e4 hx]; exact h5 x hx
    · rw [(e3 x z).1]; exact h5 x hx
  · intro x hx
    by_cases z : x = t
    · subst z
      exact ⟨fun _ => by rw [e1, e2], fun y => by omega⟩
    · rw [(e3 x z).1, (e3 x z).2]
      exact ⟨fun y => (h6 x hx).1 (by omega), fun y => (h6 x hx).2 (by omega)⟩
theorem rn_pick {g : Nat → Nat → Nat} {root w s kept R : Nat} {q0 : Nat → Int32} {i t c n : Nat} {K : List Nat} {pa pt ca mi hi ypa yto yca ymi yst : Nat → Int32} (N : pg_n g n)
    (I : rn_I g root w s kept q0 i t c (n :: K) pa pt ca mi hi ypa yto yca ymi yst) (Pr : lm_pre g q0 root kept R) (hc : lm_ch g n) :
    ∃ (k : Nat) (pa' ypa' : Nat → Int32), g 3 n ≤ k ∧ k ≤ g 4 n ∧ k ≤ 4 ∧ t < 20 ∧ pa' t = nI k ∧
      ((pa t = -4 ∧ pa' = upd pa t (nI (g 3 n)) ∧ g 3 n = k) ∨ (¬ pa t = -4 ∧ pa' = pa ∧ pa t = nI k)) ∧
      ((¬ t < kept ∧ ypa' = upd ypa t (nI (g 3 n)) ∧ g 3 n = k) ∨ (t < kept ∧ ypa' = ypa ∧ ypa t = nI k)) ∧
      (∀ L' c', lm_st g pa' (n :: K, t, c) = (L', t + 1, c') → rn_I g root w s kept q0 (i + 1) (t + 1) c' L' pa' (upd pt t (nI (g 4 n))) ca mi hi ypa' (upd yto t (nI (g 4 n))) yca ymi yst) := by
  have h4 : g 3 n ≤ g 4 n ∧ g 4 n ≤ 4 := by
    obtain ⟨-, -, N | N | N | N | N⟩ := N <;> omega
  have e6 : ∀ x, x ≠ t → upd pt t (nI (g 4 n)) x = pt x ∧ upd yto t (nI (g 4 n)) x = yto x := fun x hx => ⟨us_n hx, us_n hx⟩
  obtain ⟨ht, ⟨a1, k, a2, a3, a4, a5⟩ | ⟨a1, a2⟩⟩ := rn_new N I Pr hc
  · have ne : ¬ pa t = -4 := by
      rw [a2]
      have : ∀ x, x < 5 → ¬ nI x = -4 := by decide
      exact this k (by omega)
    refine ⟨k, pa, ypa, a4, a5, by omega, ht, a2, Or.inr ⟨ne, rfl, a2⟩, Or.inr ⟨a1, rfl, a3⟩, fun L' c' e => ?_⟩
    exact rn_cho N I hc ht a2 a3 ⟨a4, a5⟩ (fun x _ => ⟨rfl, rfl⟩) (fun _ => rfl) ⟨us_s, us_s⟩ e6 e
  · refine ⟨g 3 n, upd pa t (nI (g 3 n)), upd ypa t (nI (g 3 n)), Nat.le_refl _, h4.1, by omega, ht, us_s, Or.inl ⟨a2, rfl, rfl⟩, Or.inl ⟨a1, rfl, rfl⟩, fun L' c' e => ?_⟩
    exact rn_cho N I hc ht us_s us_s ⟨Nat.le_refl _, h4.1⟩ (fun x hx => ⟨us_n hx, us_n hx⟩) (fun z => absurd z a1) ⟨us_s, us_s⟩ e6 e
