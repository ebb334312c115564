/-! Y's pile of statements to do, and X's place in the program, as a list of pending statements -/
def td_L (todo : Nat → Int32) : List Nat → Prop
  | [] => True
  | n :: K => todo K.length = nI n ∧ td_L todo K
theorem td_upd {todo todo' : Nat → Int32} : ∀ {K : List Nat}, td_L todo K → (∀ i, i < K.length → todo' i = todo i) → td_L todo' K
  | [], _, _ => trivial
  | n :: K, h, e => ⟨by rw [e K.length (by simp)]; exact h.1, td_upd h.2 fun i hi => e i (by simp only [List.length_cons]; omega)⟩
theorem td_push {todo : Nat → Int32} {K : List Nat} {n i : Nat} {x : Int32} (h : td_L todo K) (hi : i = K.length) (hx : x = nI n) : td_L (upd todo i x) (n :: K) := by
  subst hi hx
  refine ⟨?_, td_upd h fun i hi => ?_⟩
  · show (if K.length = K.length then nI n else todo K.length) = nI n
    rw [if_pos rfl]
  · show (if i = K.length then nI n else todo i) = todo i
    rw [if_neg (by omega)]
def ch_x (g : Nat → Nat → Nat) (root : Nat) (rd : Nat → Int32) : Nat → Nat → List Nat → Prop
  | 0, n, K => n = root ∧ K = []
  | j + 1, n, K => ∃ p K', n < p ∧ p ≤ root ∧ ch_x g root rd j p K' ∧
      ((g 0 p = 2 ∧ n = g 1 p ∧ K = g 2 p :: K') ∨ (g 0 p = 2 ∧ n = g 2 p ∧ K = K') ∨ (g 0 p = 3 ∧ (n = g 1 p ∨ n = g 2 p) ∧ K = K') ∨
       (g 0 p = 4 ∧ n = g 1 p ∧ ∃ k, k ≤ 3 ∧ rd p = nI k ∧ K = List.replicate k (g 1 p) ++ K'))
theorem ch_le {g : Nat → Nat → Nat} {root : Nat} {rd : Nat → Int32} : ∀ {j n K}, ch_x g root rd j n K → n ≤ root ∧ K.length ≤ 3 * (root - n)
  | 0, n, K, h => by
    obtain ⟨h1, h2⟩ := h
    subst h1 h2
    exact ⟨Nat.le_refl _, by simp⟩
  | j + 1, n, K, h => by
    obtain ⟨p, K', h1, h2, h3, h4⟩ := h
    have ih := (ch_le h3).2
    refine ⟨by omega, ?_⟩
    rcases h4 with ⟨-, -, e⟩ | ⟨-, -, e⟩ | ⟨-, -, e⟩ | ⟨-, -, k, hk, -, e⟩
    · subst e; simp only [List.length_cons]; omega
    · subst e; omega
    · subst e; omega
    · subst e; simp only [List.length_append, List.length_replicate]; omega
theorem ch_upd {g : Nat → Nat → Nat} {root : Nat} {rd rd' : Nat → Int32} : ∀ {j n K}, ch_x g root rd j n K → (∀ p, n < p → rd' p = rd p) → ch_x g root rd' j n K
  | 0, n, K, h, _ => h
  | j + 1, n, K, h, e => by
    obtain ⟨p, K', h1, h2, h3, h4⟩ := h
    refine ⟨p, K', h1, h2, ch_upd h3 fun x hx => e x (by omega), ?_⟩
    rw [e p h1]
    exact h4
/-! the cache: X's ages against Y's rows -/
def cr_R (w s : Nat) (ag ce : Nat → Int32) : Prop :=
  (∀ m, m < 12 → ∃ a, a ≤ w ∧ ag m = nI a ∧ ∀ p, p < w → (ce (4 * (m % s) + p) = nI m ↔ p = a)) ∧
  (∀ b p, b < 4 → p < 4 → ce (4 * b + p) = -1 ∨ (p < w ∧ ∃ m, m < 12 ∧ m % s = b ∧ ce (4 * b + p) = nI m))
theorem cr_m1 {m : Nat} (h : m < 12) : (-1 : Int32) ≠ nI m := by
  intro e
  have := congrArg Int32.toInt e
  rw [nI_toInt (by omega)] at this
  have h2 : (-1 : Int32).toInt = -1 := by decide
  omega
theorem cr_0 {w s : Nat} {ag ce : Nat → Int32} (ha : ∀ m, m < 12 → ag m = nI w) (hc : ∀ i, i < 16 → ce i = -1) (hs : 0 < s) (hs4 : s ≤ 4) (hw : w ≤ 4) : cr_R w s ag ce := by
  refine ⟨fun m hm => ⟨w, Nat.le_refl _, ha m hm, fun p hp => ?_⟩, fun b p hb hp => Or.inl (hc _ (by omega))⟩
  have := Nat.mod_lt m hs
  rw [hc _ (by omega)]
  exact ⟨fun e => absurd e (cr_m1 hm), fun e => by omega⟩
/-- an access to line m: the ages of X, the rows of Y -/
theorem cr_acc {w s m a po : Nat} {ag ce ag' ce' : Nat → Int32} (R : cr_R w s ag ce) (hw0 : 0 < w) (hw : w ≤ 4) (hs0 : 0 < s) (hs : s ≤ 4) (hm : m < 12)
    (ha : ag m = nI a) (haw : a ≤ w)
    (hag : ∀ l b, l < 12 → ag l = nI b → b ≤ w → ag' l = nI (if l = m then 0 else if l % s = m % s ∧ b < a then b + 1 else b))
    (hat : po = if a < w then a else w - 1)
    (hce : ∀ b p, b < 4 → p < 4 → ce' (4 * b + p) = if b = m % s ∧ p = 0 then nI m else if b = m % s ∧ p ≤ po then ce (4 * b + (p - 1)) else ce (4 * b + p)) : cr_R w s ag' ce' := by
  obtain ⟨R1, R2⟩ := R
  have hb := Nat.mod_lt m hs0
  have inj : ∀ x y, x < 12 → y < 12 → nI x = nI y → x = y := fun x y hx hy e => (nI_eq (by omega) (by omega)).mp e
  have hA : ∀ p, p < w → (ce (4 * (m % s) + p) = nI m ↔ p = a) := by
    obtain ⟨a2, h1, h2, h3⟩ := R1 m hm
    have : a2 = a := by rw [ha, nI_eq (by omega) (by omega)] at h2; exact h2.symm
    subst this; exact h3
  have hat1 : po ≤ a := by rw [hat]; split <;> omega
  have hat2 : po < w := by rw [hat]; split <;> omega
  have hat3 : po < a → po = w - 1 := by rw [hat]; split <;> omega
  refine ⟨fun l hl => ?_, fun b p hb4 hp => ?_⟩
  · obtain ⟨b, hb1, hb2, hb3⟩ := R1 l hl
    have hlb := Nat.mod_lt l hs0
    refine ⟨_, ?_, hag l b hl hb2 hb1, fun p hp => ?_⟩
    · by_cases e : l = m
      · rw [if_pos e]; omega
      · rw [if_neg e]; split <;> omega
    · rw [hce (l % s) p (by omega) (by omega)]
      by_cases e : l = m
      · subst e
        rw [if_pos rfl]
        by_cases p0 : p = 0
        · rw [if_pos ⟨rfl, p0⟩]; exact ⟨fun _ => p0, fun _ => rfl⟩
        · rw [if_neg (fun z => p0 z.2)]
          by_cases p1 : p ≤ po
          · rw [if_pos ⟨rfl, p1⟩, hA (p - 1) (by omega)]; omega
          · rw [if_neg (fun z => p1 z.2), hA p hp]; omega
      · rw [if_neg e]
        by_cases es : l % s = m % s
        · have noeq : ∀ x, x < w → b = x → a = x → False := by
            intro x hx hbx hax
            have u1 := (hb3 x hx).mpr hbx.symm
            have u2 := (hA x hx).mpr hax.symm
            rw [es] at u1
            exact e (inj l m hl hm (u1.symm.trans u2))
          by_cases p0 : p = 0
          · rw [if_pos ⟨es, p0⟩]
            refine ⟨fun z => absurd (inj m l hm hl z).symm e, fun z => ?_⟩
            exfalso
            by_cases ba : b < a
            · rw [if_pos ⟨es, ba⟩] at z; omega
            · rw [if_neg (fun z => ba z.2)] at z
              exact noeq 0 hw0 (by omega) (by omega)
          · rw [if_neg (fun z => p0 z.2)]
            by_cases p1 : p ≤ po
            · rw [if_pos ⟨es, p1⟩, hb3 (p - 1) (by omega)]
              by_cases ba : b < a
              · rw [if_pos ⟨es, ba⟩]; omega
              · rw [if_neg (fun z => ba z.2)]
                refine ⟨fun z => by omega, fun z => ?_⟩
                exfalso
                exact noeq p hp z.symm (by omega)
            · rw [if_neg (fun z => p1 z.2), hb3 p hp]
              by_cases ba : b < a
              · rw [if_pos ⟨es, ba⟩]; omega
              · rw [if_neg (fun z => ba z.2)]
        · rw [if_neg (fun z => es z.1), if_neg (fun z => es z.1), if_neg (fun z => es z.1), hb3 p hp]
  · rw [hce b p hb4 hp]
    by_cases eb : b = m % s
    · by_cases p0 : p = 0
      · rw [if_pos ⟨eb, p0⟩]
        exact Or.inr ⟨by omega, m, hm, eb.symm, rfl⟩
      · rw [if_neg (fun z => p0 z.2)]
        by_cases p1 : p ≤ po
        · rw [if_pos ⟨eb, p1⟩]
          rcases R2 b (p - 1) hb4 (by omega) with z | ⟨z1, x, z2, z3, z4⟩
          · exact Or.inl z
          · exact Or.inr ⟨by omega, x, z2, z3, z4⟩
        · rw [if_neg (fun z => p1 z.2)]; exact R2 b p hb4 hp
    · rw [if_neg (fun z => eb z.1), if_neg (fun z => eb z.1)]; exact R2 b p hb4 hp
/-- ages and rows determine each other -/
theorem cr_ages {w s : Nat} {ag ag2 ce ce2 : Nat → Int32} (hw : w ≤ 4) (hs0 : 0 < s) (hs : s ≤ 4) (R : cr_R w s ag ce) (R2 : cr_R w s ag2 ce2) (h : ∀ i, i < 16 → ce i = ce2 i) : ∀ m, m < 12 → ag m = ag2 m := by
  intro m hm
  obtain ⟨a, a1, a2, a3⟩ := R.1 m hm
  obtain ⟨b, b1, b2, b3⟩ := R2.1 m hm
  have := Nat.mod_lt m hs0
  have e : ∀ p, p < w → (p = a ↔ p = b) := fun p hp => by rw [← a3 p hp, ← b3 p hp, h _ (by omega)]
  have : a = b := by
    rcases Nat.lt_or_ge a w with z | z
    · exact (e a z).mp rfl
    · rcases Nat.lt_or_ge b w with y | y
      · exact ((e b y).mpr rfl).symm
      · omega
  rw [a2, b2, this]
theorem cr_cells1 {w s : Nat} {ag ag2 ce ce2 : Nat → Int32} (hw : w ≤ 4) (R : cr_R w s ag ce) (R2 : cr_R w s ag2 ce2) (h : ∀ m, m < 12 → ag m = ag2 m) {b p m : Nat} (hp : p < w) (hm : m < 12) (hs : m % s = b) (e : ce (4 * b + p) = nI m) : ce2 (4 * b + p) = nI m := by
  obtain ⟨a, a1, a2, a3⟩ := R.1 m hm
  obtain ⟨b', b1, b2, b3⟩ := R2.1 m hm
  rw [h m hm, b2, nI_eq (by omega) (by omega)] at a2
  subst hs
  exact (b3 p hp).mpr (((a3 p hp).mp e).trans a2.symm)
theorem cr_cells {w s : Nat} {ag ag2 ce ce2 : Nat → Int32} (hw : w ≤ 4) (R : cr_R w s ag ce) (R2 : cr_R w s ag2 ce2) (h : ∀ m, m < 12 → ag m = ag2 m) : ∀ i, i < 16 → ce i = ce2 i := by
  intro i hi
  have e : i = 4 * (i / 4) + i % 4 := by omega
  rw [e]
  rcases R.2 (i / 4) (i % 4) (by omega) (by omega) with z | ⟨z1, m, z2, z3, z4⟩
  · rcases R2.2 (i / 4) (i % 4) (by omega) (by omega) with y | ⟨y1, m, y2, y3, y4⟩
    · rw [z, y]
    · rw [y4]; exact cr_cells1 hw R2 R (fun m hm => (h m hm).symm) y1 y2 y3 y4
  · rw [z4]; exact (cr_cells1 hw R R2 h z1 z2 z3 z4).symm
/-! codes -/
def cd_c (b : Nat) (f : Nat → Nat) : Nat → Nat
  | 0 => 0
  | k + 1 => cd_c b f k * b + f k
theorem cd_two {x y x' y' b : Nat} (hy : y < b) (hy' : y' < b) (h : x * b + y = x' * b + y') : x = x' ∧ y = y' := by
  have h1 : (x * b + y) / b = x := by
    rw [Nat.mul_comm, Nat.mul_add_div (by omega), Nat.div_eq_of_lt hy]; omega
  have h2 : (x' * b + y') / b = x' := by
    rw [Nat.mul_comm, Nat.mul_add_div (by omega), Nat.div_eq_of_lt hy']; omega
  have e : x = x' := by rw [← h1, h, h2]
  subst e
  exact ⟨rfl, by omega⟩
theorem cd_inj {b : Nat} {f f' : Nat → Nat} : ∀ k, (∀ i, i < k → f i < b) → (∀ i, i < k → f' i < b) → cd_c b f k = cd_c b f' k → ∀ i, i < k → f i = f' i := by
  intro k
  induction k with
  | zero => intro _ _ _ i hi; omega
  | succ k ih =>
    intro h1 h2 e i hi
    have u := cd_two (h1 k (by omega)) (h2 k (by omega)) e
    rcases Nat.lt_or_ge i k with z | z
    · exact ih (fun i hi => h1 i (by omega)) (fun i hi => h2 i (by omega)) u.1 i z
    · have : i = k := by omega
      subst this; exact u.2
theorem cd_lt {b : Nat} {f : Nat → Nat} : ∀ k, (∀ i, i < k → f i < b) → cd_c b f k < b ^ k := by
  intro k
  induction k with
  | zero => intro _; exact Nat.one_pos
  | succ k ih =>
    intro h
    have a := ih fun i hi => h i (by omega)
    have c := h k (by omega)
    rw [Nat.pow_succ]
    show cd_c b f k * b + f k < _
    have : (cd_c b f k + 1) * b ≤ b ^ k * b := Nat.mul_le_mul_right _ a
    rw [Nat.add_mul] at this
    omega
theorem cd_eq {b : Nat} {f f' : Nat → Nat} : ∀ k, (∀ i, i < k → f i = f' i) → cd_c b f k = cd_c b f' k := by
  intro k
  induction k with
  | zero => intro _; rfl
  | succ k ih =>
    intro h
    show cd_c b f k * b + f k = cd_c b f' k * b + f' k
    rw [ih fun i hi => h i (by omega), h k (by omega)]
