/-! a new statement: the tables of both sides again -/
theorem pn_leaf {g : Nat → Nat → Nat} {ma k v : Nat} (hk : (k = 0 ∧ v < 12) ∨ (k = 1 ∧ v ≤ 50)) : pg_n (gh_n g ma (gv_v k v 0 0 0 1 1 0 1 ma)) ma := by
  unfold pg_n
  simp only [gh_m, gv_v]
  refine ⟨Nat.le_refl _, Nat.le_refl _, ?_⟩
  rcases hk with ⟨h1, h2⟩ | ⟨h1, h2⟩
  · exact Or.inl ⟨h1, h2, by trivial, by trivial, by trivial, by trivial, by trivial, by trivial, by trivial⟩
  · exact Or.inr (Or.inl ⟨h1, h2, by trivial, by trivial, by trivial, by trivial, by trivial, by trivial, by trivial⟩)
theorem pn_seq {g : Nat → Nat → Nat} {ma a b : Nat} (T : pg_t g ma) (hab : a < b) (hb : b + 1 = ma) (hl : g 9 b = a + 1) : pg_n (gh_n g ma (gv_v 2 a b 0 0 (g 5 a * g 5 b) (g 6 a + g 6 b) (g 7 a + g 7 b) (1 + g 8 a + g 8 b) (g 9 a))) ma := by
  have e2 : ∀ (v : Nat → Nat) i, gh_n g ma v i a = g i a := fun v i => gh_e i a (by omega)
  have e3 : ∀ (v : Nat → Nat) i, gh_n g ma v i b = g i b := fun v i => gh_e i b (by omega)
  obtain ⟨a1, a2, -⟩ := T a (by omega)
  obtain ⟨b1, b2, -⟩ := T b (by omega)
  have pos : 1 ≤ g 5 a * g 5 b := Nat.mul_pos a2 b2
  unfold pg_n
  simp only [gh_m, gv_v, e2, e3]
  exact ⟨by omega, pos, Or.inr (Or.inr (Or.inl ⟨trivial, hab, hb, hl, trivial, trivial, trivial, trivial, trivial, trivial, trivial⟩))⟩
theorem pn_if {g : Nat → Nat → Nat} {ma a b : Nat} (T : pg_t g ma) (hab : a < b) (hb : b + 1 = ma) (hl : g 9 b = a + 1) : pg_n (gh_n g ma (gv_v 3 a b 0 1 (g 5 a + g 5 b) (max (g 6 a) (g 6 b)) (1 + max (g 7 a) (g 7 b)) (1 + g 8 a + g 8 b) (g 9 a))) ma := by
  have e2 : ∀ (v : Nat → Nat) i, gh_n g ma v i a = g i a := fun v i => gh_e i a (by omega)
  have e3 : ∀ (v : Nat → Nat) i, gh_n g ma v i b = g i b := fun v i => gh_e i b (by omega)
  obtain ⟨a1, a2, -⟩ := T a (by omega)
  obtain ⟨b1, b2, -⟩ := T b (by omega)
  unfold pg_n
  simp only [gh_m, gv_v, e2, e3]
  exact ⟨by omega, by omega, Or.inr (Or.inr (Or.inr (Or.inl ⟨trivial, hab, hb, hl, trivial, trivial, trivial, trivial, trivial, trivial, trivial⟩)))⟩
theorem pn_loop {g : Nat → Nat → Nat} {ma a lo hi : Nat} (T : pg_t g ma) (hb : a + 1 = ma) (hlo : lo ≤ hi) (hhi : hi ≤ 4) : pg_n (gh_n g ma (gv_v 4 a 0 lo hi (ps_s (g 5 a) lo (hi + 1)) (hi * (1 + g 6 a)) ((if lo < hi then 1 else 0) + hi * g 7 a) (1 + hi * g 8 a) (g 9 a))) ma := by
  have e2 : ∀ (v : Nat → Nat) i, gh_n g ma v i a = g i a := fun v i => gh_e i a (by omega)
  obtain ⟨a1, a2, -⟩ := T a (by omega)
  have pos := ps_pos a2 hlo
  unfold pg_n
  simp only [gh_m, gv_v, e2]
  exact ⟨by omega, pos, Or.inr (Or.inr (Or.inr (Or.inr ⟨trivial, hb, trivial, hlo, hhi, trivial, trivial, trivial, trivial⟩)))⟩
def rl_B (xm xh ym yd : Int32) (ki fi se lo hi pa xp xl xc xs so yl yh yf ys yp yn yc yk : Nat → Int32) : Prop :=
  ∃ (g : Nat → Nat → Nat) (sk : Nat → Nat) (ma he : Nat), pg_t g ma ∧ sk_s g ma he sk ∧ xm = nI ma ∧ ym = nI ma ∧ xh = nI he ∧ yd = nI he ∧ (∀ i, i < he → xs i = nI (sk i) ∧ yk i = nI (sk i)) ∧
    (∀ n, n < ma → xt_n g ki fi se lo hi pa n) ∧ (∀ n, n < ma → yt_n g 18 so yl yh yf ys n) ∧ (∀ n, n < ma → me_n g 0 xp xl xc n) ∧ (∀ n, n < ma → me_n g 18 yp yn yc n)
theorem nw_B {g : Nat → Nat → Nat} {sk v : Nat → Nat} {ma he b : Nat} {ki fi se lo hi pa xp xl xc xs so yl yh yf ys yp yn yc yk ki' fi' se' lo' hi' pa' xp' xl' xc' so' yl' yh' yf' ys' yp' yn' yc' : Nat → Int32}
    (T : pg_t g ma) (S : sk_s g ma he sk) (hb : b ≤ he) (hm : ma < 18) (St : ∀ i, i < he → xs i = nI (sk i) ∧ yk i = nI (sk i)) (XT : ∀ n, n < ma → xt_n g ki fi se lo hi pa n) (YT : ∀ n, n < ma → yt_n g 18 so yl yh yf ys n) (MX : ∀ n, n < ma → me_n g 0 xp xl xc n) (MY : ∀ n, n < ma → me_n g 18 yp yn yc n)
    (N : pg_n (gh_n g ma v) ma) (hL : 0 < b → sk (b - 1) + 1 = v 9) (hF : 2 ≤ v 0 → ∃ i, b ≤ i ∧ i < he ∧ v 1 = sk i) (hS : v 0 = 2 ∨ v 0 = 3 → ∃ i, b ≤ i ∧ i < he ∧ v 2 = sk i)
    (NX : xt_n (gh_n g ma v) ki' fi' se' lo' hi' pa' ma) (EX : ∀ n, n < ma → ki' n = ki n ∧ fi' n = fi n ∧ se' n = se n ∧ lo' n = lo n ∧ hi' n = hi n) (PX : ∀ x, (∀ i, b ≤ i → i < he → x ≠ sk i) → pa' x = pa x)
    (NY : yt_n (gh_n g ma v) 18 so' yl' yh' yf' ys' ma) (EY : ∀ n, n < ma → so' (18 + n) = so (18 + n) ∧ yl' (18 + n) = yl (18 + n) ∧ yh' (18 + n) = yh (18 + n) ∧ yf' (18 + n) = yf (18 + n) ∧ ys' (18 + n) = ys (18 + n))
    (NM : me_n (gh_n g ma v) 0 xp' xl' xc' ma) (EM : ∀ n, n < ma → xp' (0 + n) = xp (0 + n) ∧ xl' (0 + n) = xl (0 + n) ∧ xc' (0 + n) = xc (0 + n))
    (NN : me_n (gh_n g ma v) 18 yp' yn' yc' ma) (EN : ∀ n, n < ma → yp' (18 + n) = yp (18 + n) ∧ yn' (18 + n) = yn (18 + n) ∧ yc' (18 + n) = yc (18 + n)) :
    rl_B (nI (ma + 1)) (nI (b + 1)) (nI (ma + 1)) (nI (b + 1)) ki' fi' se' lo' hi' pa' xp' xl' xc' (upd xs b (nI ma)) so' yl' yh' yf' ys' yp' yn' yc' (upd yk b (nI ma)) := by
  refine ⟨gh_n g ma v, fun i => if i = b then ma else sk i, ma + 1, b + 1, pg_ext1 gh_e T N, nw_sk gh_e T S hb hm ?_ ?_ ?_, rfl, rfl, rfl, rfl, fun i hi => ?_, nw_xt gh_e S hb XT NX EX PX, nw_yt gh_e YT NY EY, nw_me gh_e MX NM EM, nw_me gh_e MY NN EN⟩
  · rw [gh_m]; exact hL
  · rw [gh_m, gh_m]; exact hF
  · rw [gh_m, gh_m]; exact hS
  · dsimp only
    by_cases z : i = b
    · subst z; rw [us_s, us_s, if_pos rfl]; exact ⟨rfl, rfl⟩
    · rw [us_n z, us_n z, if_neg z]; exact St i (by omega)
def rl_C (w s : Nat) (sb pc se pl : Int32) : Prop := 0 < w ∧ w ≤ 4 ∧ 0 < s ∧ s ≤ 4 ∧ (∀ x y, x < 12 → y < 12 → ((nI x &&& sb) = (nI y &&& sb) ↔ x % s = y % s)) ∧ pc = nI w ∧ se = nI s ∧ pl = nI w
def rl_A (w s : Nat) (xpc xgl xpb xwt xbt xwc xen : Int32) (xwp xsn xmm xmh xlm : Nat → Int32) (xe : Nat → Int64) (xh : Nat → Int32) (ysz ybd ywt ybt ywr ywc yen : Int32) (yso ypo ylo ywp ymm ymh ylm : Nat → Int32) (ye : Nat → Int64) (yh yme yus : Nat → Int32) : Prop :=
  ∃ (gp : Nat → Nat → Nat) (sz en : Nat), 1 ≤ sz ∧ sz ≤ 18 ∧ ysz = nI sz ∧ xpc = ypo (sz - 1) ∧ xgl = ylo (sz - 1) ∧ xpb = ybd ∧ (∀ n, n < sz → yso n = nI (gp 0 n) ∧ gp 0 n ≤ 4) ∧
    nr_R gp sz w s en xwt xbt xwc xen xwp xmm xmh xlm xe xh ywt ybt ywr ywc yen ywp ymm ymh ylm ye yh ∧ (∃ z, z ≤ 200000 ∧ ywt = nI z) ∧ nt_A gp sz xsn (fun n => if yme n = 0 then 0 else if yus n = 0 then 1 else 0)
theorem rl_A_low {w s : Nat} {xpc xgl xpb xwt xbt xwc xen : Int32} {xwp xsn xmm xmh xlm : Nat → Int32} {xe : Nat → Int64} {xh : Nat → Int32} {ysz ybd ywt ybt ywr ywc yen : Int32} {yso ypo ylo yso' ypo' ylo' ywp ymm ymh ylm : Nat → Int32} {ye : Nat → Int64} {yh yme yus : Nat → Int32}
    (A : rl_A w s xpc xgl xpb xwt xbt xwc xen xwp xsn xmm xmh xlm xe xh ysz ybd ywt ybt ywr ywc yen yso ypo ylo ywp ymm ymh ylm ye yh yme yus) (e : ∀ n, n < 18 → yso' n = yso n ∧ ypo' n = ypo n ∧ ylo' n = ylo n) : rl_A w s xpc xgl xpb xwt xbt xwc xen xwp xsn xmm xmh xlm xe xh ysz ybd ywt ybt ywr ywc yen yso' ypo' ylo' ywp ymm ymh ylm ye yh yme yus := by
  obtain ⟨gp, sz, en, h1, h2, h3, h4, h5, h6, h7, h8⟩ := A
  refine ⟨gp, sz, en, h1, h2, h3, ?_, ?_, h6, fun n hn => ?_, h8⟩
  · rw [(e (sz - 1) (by omega)).2.1]; exact h4
  · rw [(e (sz - 1) (by omega)).2.2]; exact h5
  · rw [(e n (by omega)).1]; exact h7 n hn
/-- the relation of the two states -/
def i_Rel (_ : Nat) (u : SX) (v : SY) : Prop := match u, v with
  | (f_setBits, f_placeCount, f_made, f_height, f_pathCount, f_greatestLength, f_worstTime, f_bestTime, f_worstCount, f_programBound, f_endingCount, f_chosen, f_time, a_kind, a_first, a_second, a_low, a_high, a_parent, a_pathsOf, a_lengthOf, a_choicesOf, a_stack, a_worstPath, a_sureness, a_mostMisses, a_mostHits, a_leastMisses, a_endings, a_runsHolding, a_rounds, a_path, a_pathTop, a_cache, a_runMisses, a_runHits, a_table, a_before, a_behind), (h_sets, h_places, h_made, h_depth, h_size, h_open, h_time, h_chosen, h_kept, h_worst, h_best, h_worstRuns, h_worstChoices, h_ends, h_bound, h_under, h_back, b_sorts, b_lows, b_highs, b_firsts, b_seconds, b_stack, b_pathsOf, b_lengthOf, b_choicesOf, b_todo, b_cache, b_path, b_tops, b_missed, b_struck, b_worstPath, b_mostMissed, b_mostStruck, b_leastMissed, b_held, b_contents, b_ages, b_phase, b_node, b_sum, b_saved, b_greatest, b_met, b_unsure) => ∃ w s : Nat, rl_C w s f_setBits f_placeCount h_sets h_places ∧
      rl_B f_made f_height h_made h_depth a_kind a_first a_second a_low a_high a_parent a_pathsOf a_lengthOf a_choicesOf a_stack b_sorts b_lows b_highs b_firsts b_seconds b_pathsOf b_lengthOf b_choicesOf b_stack ∧
      rl_A w s f_pathCount f_greatestLength f_programBound f_worstTime f_bestTime f_worstCount f_endingCount a_worstPath a_sureness a_mostMisses a_mostHits a_leastMisses a_endings a_runsHolding h_size h_bound h_worst h_best h_worstRuns h_worstChoices h_ends b_sorts b_pathsOf b_lengthOf b_worstPath b_mostMissed b_mostStruck b_leastMissed b_contents b_held b_met b_unsure
theorem i_up {k : Nat} {u : SX} {v : SY} (h : i_Rel k u v) : i_Rel (k + 3) u v := h
