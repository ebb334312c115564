/-! an array that a loop has gone through up to i -/
theorem us_s {f : Nat → Int32} {k : Nat} {x : Int32} : upd f k x k = x := by
  show (if k = k then x else f k) = x
  rw [if_pos rfl]
theorem us_n {f : Nat → Int32} {k j : Nat} {x : Int32} (h : j ≠ k) : upd f k x j = f j := by
  show (if j = k then x else f j) = f j
  rw [if_neg h]
def sw_f {α : Type} (new old : Nat → α) (i : Nat) : Nat → α := fun j => if j < i then new j else old j
theorem sw_0 {α : Type} (new old : Nat → α) : sw_f new old 0 = old := by
  funext j
  show (if j < 0 then new j else old j) = old j
  rw [if_neg (Nat.not_lt_zero _)]
theorem sw_at {α : Type} (new old : Nat → α) (i : Nat) : sw_f new old i i = old i := by
  show (if i < i then new i else old i) = old i
  rw [if_neg (Nat.lt_irrefl _)]
theorem sw_lt {α : Type} {new old : Nat → α} {i j : Nat} (h : j < i) : sw_f new old i j = new j := by
  show (if j < i then new j else old j) = new j
  rw [if_pos h]
theorem sw_ge {α : Type} {new old : Nat → α} {i j : Nat} (h : i ≤ j) : sw_f new old i j = old j := by
  show (if j < i then new j else old j) = old j
  rw [if_neg (by omega)]
theorem sw_u {new old : Nat → Int32} {i : Nat} {x : Int32} (hx : x = new i) : upd (sw_f new old i) i x = sw_f new old (i + 1) := by
  funext j
  show (if j = i then x else if j < i then new j else old j) = if j < i + 1 then new j else old j
  by_cases h : j = i
  · subst h; rw [if_pos rfl, if_pos (by omega), hx]
  · rw [if_neg h]
    by_cases h2 : j < i
    · rw [if_pos h2, if_pos (by omega)]
    · rw [if_neg h2, if_neg (by omega)]
theorem sw_k {α : Type} {new old : Nat → α} {i : Nat} (hx : new i = old i) : sw_f new old i = sw_f new old (i + 1) := by
  funext j
  show (if j < i then new j else old j) = if j < i + 1 then new j else old j
  by_cases h : j = i
  · subst h; rw [if_neg (by omega), if_pos (by omega), hx]
  · by_cases h2 : j < i
    · rw [if_pos h2, if_pos (by omega)]
    · rw [if_neg h2, if_neg (by omega)]
/-- an array with a row of it, beginning at b, gone through up to i -/
def sr_f (b : Nat) (new old : Nat → Int32) (i : Nat) : Nat → Int32 := fun j => if b ≤ j ∧ j < b + i then new (j - b) else old j
theorem sr_0 (b : Nat) (new old : Nat → Int32) : sr_f b new old 0 = old := by
  funext j
  show (if b ≤ j ∧ j < b + 0 then new (j - b) else old j) = old j
  rw [if_neg (by omega)]
theorem sr_at (b : Nat) (new old : Nat → Int32) (i : Nat) : sr_f b new old i (b + i) = old (b + i) := by
  show (if b ≤ b + i ∧ b + i < b + i then new (b + i - b) else old (b + i)) = old (b + i)
  rw [if_neg (by omega)]
theorem sr_in {b : Nat} {new old : Nat → Int32} {i j : Nat} (h : j < i) : sr_f b new old i (b + j) = new j := by
  show (if b ≤ b + j ∧ b + j < b + i then new (b + j - b) else old (b + j)) = new j
  rw [if_pos (by omega), Nat.add_sub_cancel_left]
theorem sr_out {b : Nat} {new old : Nat → Int32} {i j : Nat} (h : j < b ∨ b + i ≤ j) : sr_f b new old i j = old j := by
  show (if b ≤ j ∧ j < b + i then new (j - b) else old j) = old j
  rw [if_neg (by omega)]
theorem sr_u {b : Nat} {new old : Nat → Int32} {i : Nat} {x : Int32} (hx : x = new i) : upd (sr_f b new old i) (b + i) x = sr_f b new old (i + 1) := by
  funext j
  show (if j = b + i then x else if b ≤ j ∧ j < b + i then new (j - b) else old j) = if b ≤ j ∧ j < b + (i + 1) then new (j - b) else old j
  by_cases h : j = b + i
  · subst h; rw [if_pos rfl, if_pos (by omega), hx, Nat.add_sub_cancel_left]
  · rw [if_neg h]
    by_cases h2 : b ≤ j ∧ j < b + i
    · rw [if_pos h2, if_pos (by omega)]
    · rw [if_neg h2, if_neg (by omega)]
theorem sr_k {b : Nat} {new old : Nat → Int32} {i : Nat} (hx : new i = old (b + i)) : sr_f b new old i = sr_f b new old (i + 1) := by
  funext j
  show (if b ≤ j ∧ j < b + i then new (j - b) else old j) = if b ≤ j ∧ j < b + (i + 1) then new (j - b) else old j
  by_cases h : j = b + i
  · subst h; rw [if_neg (by omega), if_pos (by omega), Nat.add_sub_cancel_left, hx]
  · by_cases h2 : b ≤ j ∧ j < b + i
    · rw [if_pos h2, if_pos (by omega)]
    · rw [if_neg h2, if_neg (by omega)]
/-- the ages after an access to line m -/
def ac_f (s m : Nat) (age : Int32) (ag : Nat → Int32) : Nat → Int32 := fun l => if l % s = m % s ∧ ag l < age then ag l + 1 else ag l
def ac_a (s m : Nat) (ag : Nat → Int32) : Nat → Int32 := upd (sw_f (ac_f s m (ag m) ag) ag 12) m 0
theorem ac_val {s m a w : Nat} {ag : Nat → Int32} (hw : w ≤ 4) (ha : ag m = nI a) (haw : a ≤ w) : ∀ l b, l < 12 → ag l = nI b → b ≤ w → ac_a s m ag l = nI (if l = m then 0 else if l % s = m % s ∧ b < a then b + 1 else b) := by
  intro l b hl hb hbw
  unfold ac_a
  by_cases e : l = m
  · subst e; rw [us_s, if_pos rfl]; rfl
  · rw [us_n e, if_neg e, sw_lt hl]
    unfold ac_f
    rw [hb, ha]
    by_cases c : l % s = m % s ∧ b < a
    · rw [if_pos c, if_pos ⟨c.1, (nI_ltI (by omega) (by omega)).mpr c.2⟩, nI_1]
    · rw [if_neg c, if_neg (fun z => c ⟨z.1, (nI_ltI (by omega) (by omega)).mp z.2⟩)]
theorem ac_big {s m : Nat} {ag : Nat → Int32} {l : Nat} (hm : m < 12) (hl : 12 ≤ l) : ac_a s m ag l = ag l := by
  unfold ac_a
  rw [us_n (by omega), sw_ge hl]
def ag_ok (w : Nat) (ag : Nat → Int32) : Prop := ∀ m, m < 12 → ∃ a, a ≤ w ∧ ag m = nI a
theorem ac_ok {s m w : Nat} {ag : Nat → Int32} (hw : w ≤ 4) (hm : m < 12) (h : ag_ok w ag) : ag_ok w (ac_a s m ag) := by
  intro l hl
  obtain ⟨a, a1, a2⟩ := h m hm
  obtain ⟨b, b1, b2⟩ := h l hl
  refine ⟨_, ?_, ac_val hw a2 a1 l b hl b2 b1⟩
  by_cases e : l = m
  · rw [if_pos e]; omega
  · rw [if_neg e]; split <;> omega
theorem ac_eq {s m : Nat} {ag ag' : Nat → Int32} (hm : m < 12) (h : ∀ l, l < 12 → ag l = ag' l) : ∀ l, l < 12 → ac_a s m ag l = ac_a s m ag' l := by
  intro l hl
  unfold ac_a
  by_cases e : l = m
  · subst e; rw [us_s, us_s]
  · rw [us_n e, us_n e, sw_lt hl, sw_lt hl]
    unfold ac_f
    rw [h l hl, h m hm]
/-! the frames of Y's walk over the tables, with X's rows -/
def fr_z (be : Nat → Int32) (p : Nat) : Prop := ∀ i, i < 13 → be (p * 13 + i) = 0
def fr_r (w : Nat) (be gr : Nat → Int32) (p j : Nat) : Prop := ∀ m, m < 12 → be (p * 13 + m) = gr (12 * j + m) ∧ ∃ a, a ≤ w ∧ gr (12 * j + m) = nI a
def fr_c (g : Nat → Nat → Nat) (root w st : Nat) (rd bf be nd ph su sv gr : Nat → Int32) : Nat → Nat → Nat → Nat → Prop
  | 0, n, bs, mm => n = root ∧ bs = 0 ∧ mm = 0
  | j + 1, n, bs, mm => ∃ p bs' mm', n < p ∧ p ≤ root ∧ fr_c g root w st rd bf be nd ph su sv gr j p bs' mm' ∧ nd j = nI p ∧ bs' ≤ bs ∧
    ((g 0 p = 2 ∧ n = g 1 p ∧ ph j = 1 ∧ bs = bs' ∧ mm = g 8 (g 2 p) + mm') ∨
     (g 0 p = 2 ∧ n = g 2 p ∧ ph j = 2 ∧ (∃ s, su j = nI s ∧ bs = bs' + s) ∧ mm = mm') ∨
     (g 0 p = 3 ∧ n = g 1 p ∧ ph j = 1 ∧ bs = bs' ∧ mm = g 8 (g 2 p) + mm' ∧ fr_r w bf sv p j ∧ bf (p * 13 + 12) = nI bs' ∧ fr_z be p) ∨
     (g 0 p = 3 ∧ n = g 2 p ∧ ph j = 2 ∧ bs = bs' ∧ mm = mm' ∧ (∃ s, su j = nI s ∧ be (p * 13 + 12) = nI (bs' + s) ∧ bs' + s ≤ 50 * st) ∧ fr_r w be gr p j) ∨
     (g 0 p = 4 ∧ n = g 1 p ∧ ∃ i s, 1 ≤ i ∧ i ≤ g 4 p ∧ rd p = nI i ∧ ph j = nI i ∧ su j = nI s ∧ bs = bs' + s ∧ mm = (g 4 p - i) * g 8 (g 1 p) + mm' ∧
       ((g 3 p < i ∧ fr_r w be gr p j ∧ ∃ e, e ≤ bs ∧ be (p * 13 + 12) = nI e) ∨ (i ≤ g 3 p ∧ fr_z be p))))
theorem fr_le {g : Nat → Nat → Nat} {root w st : Nat} {rd bf be nd ph su sv gr : Nat → Int32} : ∀ {j n bs mm}, fr_c g root w st rd bf be nd ph su sv gr j n bs mm → n + j ≤ root
  | 0, n, bs, mm, h => by obtain ⟨h, -⟩ := h; omega
  | j + 1, n, bs, mm, h => by
    obtain ⟨p, bs', mm', h1, h2, h3, -⟩ := h
    have := fr_le h3
    omega
theorem fr_upd {g : Nat → Nat → Nat} {root w st st' : Nat} {rd bf be nd ph su sv gr rd' bf' be' nd' ph' su' sv' gr' : Nat → Int32} (hst : st ≤ st') : ∀ {j n bs mm}, fr_c g root w st rd bf be nd ph su sv gr j n bs mm →
    (∀ p, n < p → rd' p = rd p) → (∀ x, (n + 1) * 13 ≤ x → bf' x = bf x ∧ be' x = be x) → (∀ i, i < j → nd' i = nd i ∧ ph' i = ph i ∧ su' i = su i) → (∀ x, x < 12 * j → sv' x = sv x ∧ gr' x = gr x) →
    fr_c g root w st' rd' bf' be' nd' ph' su' sv' gr' j n bs mm
  | 0, n, bs, mm, h, _, _, _, _ => h
  | j + 1, n, bs, mm, h, e1, e2, e3, e4 => by
    obtain ⟨p, bs', mm', h1, h2, h3, h4, h5, h6⟩ := h
    have k2 : ∀ x, bf' (p * 13 + x) = bf (p * 13 + x) ∧ be' (p * 13 + x) = be (p * 13 + x) := fun x => e2 _ (by omega)
    have k4 : ∀ x, x < 12 → sv' (12 * j + x) = sv (12 * j + x) ∧ gr' (12 * j + x) = gr (12 * j + x) := fun x hx => e4 _ (by omega)
    have kz : fr_z be p → fr_z be' p := fun z i hi => by rw [(k2 i).2]; exact z i hi
    have kr : fr_r w be gr p j → fr_r w be' gr' p j := fun z m hm => by rw [(k2 m).2, (k4 m hm).2]; exact z m hm
    have ks : fr_r w bf sv p j → fr_r w bf' sv' p j := fun z m hm => by rw [(k2 m).1, (k4 m hm).1]; exact z m hm
    refine ⟨p, bs', mm', h1, h2, fr_upd hst h3 (fun x hx => e1 x (by omega)) (fun x hx => e2 x (by omega)) (fun i hi => e3 i (by omega)) (fun x hx => e4 x (by omega)), by rw [(e3 j (by omega)).1]; exact h4, h5, ?_⟩
    obtain ⟨f1, f2, f3⟩ := e3 j (by omega)
    rw [f2, f3, e1 p h1, (k2 12).1, (k2 12).2]
    rcases h6 with h | h | h | h | h
    · exact Or.inl h
    · exact Or.inr (Or.inl h)
    · obtain ⟨a1, a2, a3, a4, a5, a6, a7, a8⟩ := h
      exact Or.inr (Or.inr (Or.inl ⟨a1, a2, a3, a4, a5, ks a6, a7, kz a8⟩))
    · obtain ⟨a1, a2, a3, a4, a5, ⟨s, b1, b2, b3⟩, a7⟩ := h
      exact Or.inr (Or.inr (Or.inr (Or.inl ⟨a1, a2, a3, a4, a5, ⟨s, b1, b2, by omega⟩, kr a7⟩)))
    · obtain ⟨a1, a2, i, s, b1, b2, b3, b4, b5, b6, b7, b8⟩ := h
      refine Or.inr (Or.inr (Or.inr (Or.inr ⟨a1, a2, i, s, b1, b2, b3, b4, b5, b6, b7, ?_⟩)))
      rcases b8 with ⟨c1, c2, c3⟩ | ⟨c1, c2⟩
      · exact Or.inl ⟨c1, kr c2, c3⟩
      · exact Or.inr ⟨c1, kz c2⟩
