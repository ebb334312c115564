/-! the end of a run: codes and what is held -/
def nt_x (ag : Nat → Int32) : Nat → Nat := fun m => (ag m).toNatClampNeg
def nt_y (ce : Nat → Int32) : Nat → Nat := fun p => (ce p + 1).toNatClampNeg
theorem nt_m1 : (-1 : Int32) + 1 = nI 0 := by decide
theorem nt_xlt {w s : Nat} {ag ce : Nat → Int32} (hw : w ≤ 4) (R : cr_R w s ag ce) : ∀ m, m < 12 → nt_x ag m < 8 ∧ ag m = nI (nt_x ag m) ∧ nt_x ag m ≤ w := by
  intro m hm
  obtain ⟨a, a1, a2, -⟩ := R.1 m hm
  unfold nt_x
  rw [a2, nI_clamp (by omega)]
  exact ⟨by omega, rfl, a1⟩
theorem nt_ylt {w s : Nat} {ag ce : Nat → Int32} (R : cr_R w s ag ce) : ∀ p, p < 16 → nt_y ce p < 13 ∧ ce p + 1 = nI (nt_y ce p) := by
  intro p hp
  have e : 4 * (p / 4) + p % 4 = p := by omega
  unfold nt_y
  rcases R.2 (p / 4) (p % 4) (by omega) (by omega) with z | ⟨z1, m, z2, z3, z4⟩
  · rw [e] at z
    rw [z, nt_m1, nI_clamp (by omega)]
    exact ⟨by omega, rfl⟩
  · rw [e] at z4
    rw [z4, nI_1, nI_clamp (by omega)]
    exact ⟨by omega, rfl⟩
theorem nt_same {w s : Nat} {ag ce ag2 ce2 : Nat → Int32} (hw : w ≤ 4) (hs0 : 0 < s) (hs : s ≤ 4) (R : cr_R w s ag ce) (R2 : cr_R w s ag2 ce2) : cd_c 8 (nt_x ag) 12 = cd_c 8 (nt_x ag2) 12 ↔ cd_c 13 (nt_y ce) 16 = cd_c 13 (nt_y ce2) 16 := by
  constructor
  · intro h
    have e := cd_inj 12 (fun i hi => (nt_xlt hw R i hi).1) (fun i hi => (nt_xlt hw R2 i hi).1) h
    have e2 : ∀ m, m < 12 → ag m = ag2 m := fun m hm => by rw [(nt_xlt hw R m hm).2.1, (nt_xlt hw R2 m hm).2.1, e m hm]
    have e3 := cr_cells hw R R2 e2
    exact cd_eq 16 fun i hi => by unfold nt_y; rw [e3 i hi]
  · intro h
    have e := cd_inj 16 (fun i hi => (nt_ylt R i hi).1) (fun i hi => (nt_ylt R2 i hi).1) h
    have e2 : ∀ i, i < 16 → ce i = ce2 i := fun i hi => by
      have u := (nt_ylt R i hi).2
      rw [e i hi, ← (nt_ylt R2 i hi).2] at u
      exact (Int32.add_left_inj 1).mp u
    have e3 := cr_ages hw hs0 hs R R2 e2
    exact cd_eq 12 fun i hi => by unfold nt_x; rw [e3 i hi]
/-- Y's counts of lines held, the cells below p gone through -/
def hd_f (w s : Nat) (ag old : Nat → Int32) (p : Nat) : Nat → Int32 := fun m => if m < 12 ∧ nt_x ag m < w ∧ 4 * (m % s) + nt_x ag m < p then old m + 1 else old m
theorem hd_cell {w s : Nat} {ag ce : Nat → Int32} (hw : w ≤ 4) (hs0 : 0 < s) (hs : s ≤ 4) (R : cr_R w s ag ce) {p m : Nat} (hp : p < 16) (hm : m < 12) : ce p = nI m ↔ (nt_x ag m < w ∧ 4 * (m % s) + nt_x ag m = p) := by
  have e : 4 * (p / 4) + p % 4 = p := by omega
  have hb := Nat.mod_lt m hs0
  obtain ⟨a, a1, a2, a3⟩ := R.1 m hm
  have ex : nt_x ag m = a := by unfold nt_x; rw [a2, nI_clamp (by omega)]
  rw [ex]
  constructor
  · intro h
    rcases R.2 (p / 4) (p % 4) (by omega) (by omega) with z | ⟨z1, m', z2, z3, z4⟩
    · rw [e, h] at z; exact absurd z.symm (cr_m1 hm)
    · rw [e, h] at z4
      have : m = m' := (nI_eq (by omega) (by omega)).mp z4
      subst this
      have u := (a3 (p % 4) z1).mp (by rw [z3, e]; exact h)
      omega
  · rintro ⟨h1, h2⟩
    rw [← h2]
    exact (a3 a h1).mpr rfl
theorem hd_0 {w s : Nat} {ag old : Nat → Int32} : hd_f w s ag old 0 = old := by
  funext m
  show (if m < 12 ∧ nt_x ag m < w ∧ 4 * (m % s) + nt_x ag m < 0 then old m + 1 else old m) = old m
  rw [if_neg (by omega)]
theorem hd_no {w s : Nat} {ag ce old : Nat → Int32} (hw : w ≤ 4) (hs0 : 0 < s) (hs : s ≤ 4) (R : cr_R w s ag ce) {p : Nat} (hp : p < 16) (h : ce p = -1) : hd_f w s ag old p = hd_f w s ag old (p + 1) := by
  funext m
  show (if m < 12 ∧ nt_x ag m < w ∧ 4 * (m % s) + nt_x ag m < p then old m + 1 else old m) = (if m < 12 ∧ nt_x ag m < w ∧ 4 * (m % s) + nt_x ag m < p + 1 then old m + 1 else old m)
  by_cases c : m < 12 ∧ nt_x ag m < w ∧ 4 * (m % s) + nt_x ag m = p
  · have := (hd_cell hw hs0 hs R hp c.1).mpr c.2
    rw [h] at this
    exact absurd this (cr_m1 c.1)
  · by_cases d : m < 12 ∧ nt_x ag m < w ∧ 4 * (m % s) + nt_x ag m < p
    · rw [if_pos d, if_pos (by omega)]
    · rw [if_neg d, if_neg (by omega)]
theorem hd_yes {w s : Nat} {ag ce old : Nat → Int32} (hw : w ≤ 4) (hs0 : 0 < s) (hs : s ≤ 4) (R : cr_R w s ag ce) {p k : Nat} (hp : p < 16) (hk : k < 12) (h : ce p = nI k) : upd (hd_f w s ag old p) k (hd_f w s ag old p k + 1) = hd_f w s ag old (p + 1) := by
  have hc := (hd_cell hw hs0 hs R hp hk).mp h
  funext m
  by_cases e : m = k
  · subst e
    rw [us_s]
    show (if m < 12 ∧ nt_x ag m < w ∧ 4 * (m % s) + nt_x ag m < p then old m + 1 else old m) + 1 = (if m < 12 ∧ nt_x ag m < w ∧ 4 * (m % s) + nt_x ag m < p + 1 then old m + 1 else old m)
    rw [if_neg (by omega), if_pos (by omega)]
  · rw [us_n e]
    show (if m < 12 ∧ nt_x ag m < w ∧ 4 * (m % s) + nt_x ag m < p then old m + 1 else old m) = (if m < 12 ∧ nt_x ag m < w ∧ 4 * (m % s) + nt_x ag m < p + 1 then old m + 1 else old m)
    by_cases c : m < 12 ∧ nt_x ag m < w ∧ 4 * (m % s) + nt_x ag m = p
    · have u := (hd_cell hw hs0 hs R hp c.1).mpr c.2
      rw [h] at u
      exact absurd ((nI_eq (by omega) (by omega)).mp u).symm e
    · by_cases d : m < 12 ∧ nt_x ag m < w ∧ 4 * (m % s) + nt_x ag m < p
      · rw [if_pos d, if_pos (by omega)]
      · rw [if_neg d, if_neg (by omega)]
theorem hd_16 {w s : Nat} {ag old : Nat → Int32} (hw : w ≤ 4) (hs0 : 0 < s) (hs : s ≤ 4) : ∀ m, m < 12 → hd_f w s ag old 16 m = if nt_x ag m < w then old m + 1 else old m := by
  intro m hm
  have hb := Nat.mod_lt m hs0
  show (if m < 12 ∧ nt_x ag m < w ∧ 4 * (m % s) + nt_x ag m < 16 then old m + 1 else old m) = _
  by_cases c : nt_x ag m < w
  · rw [if_pos c, if_pos (by omega)]
  · rw [if_neg c, if_neg (by omega)]
def nt_E (w s en : Nat) (xe ye : Nat → Int64) : Prop := ∀ i, i < en → ∃ ag ce, cr_R w s ag ce ∧ xe i = lN (cd_c 8 (nt_x ag) 12) ∧ ye i = lN (cd_c 13 (nt_y ce) 16)
def nt_A (g : Nat → Nat → Nat) (sz : Nat) (xs ys : Nat → Int32) : Prop := ∀ n, n < 18 → (n < sz ∧ g 0 n = 0 → xs n = ys n) ∧ (¬ (n < sz ∧ g 0 n = 0) → xs n = -4)
def nt_W (wt xc yc yw : Int32) (xp yp : Nat → Int32) : Prop := wt = -1 ∨ (xc = yc ∧ ∃ wc, wc ≤ 20 ∧ yw = nI wc ∧ ∀ k, k < 20 → (k < wc → xp k = yp k) ∧ (¬ k < wc → xp k = -4))
