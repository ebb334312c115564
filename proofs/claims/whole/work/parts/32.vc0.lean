/-! the new object -/
theorem hb_1 : ∀ x, x < 12 → ∀ y, y < 12 → ((nI x &&& nI (1 - 1)) = (nI y &&& nI (1 - 1)) ↔ x % 1 = y % 1) := by decide
theorem hb_2 : ∀ x, x < 12 → ∀ y, y < 12 → ((nI x &&& nI (2 - 1)) = (nI y &&& nI (2 - 1)) ↔ x % 2 = y % 2) := by decide
theorem hb_4 : ∀ x, x < 12 → ∀ y, y < 12 → ((nI x &&& nI (4 - 1)) = (nI y &&& nI (4 - 1)) ↔ x % 4 = y % 4) := by decide
theorem hb_s {s : Nat} (h : s = 1 ∨ s = 2 ∨ s = 4) : ∀ x y, x < 12 → y < 12 → ((nI x &&& nI (s - 1)) = (nI y &&& nI (s - 1)) ↔ x % s = y % s) := by
  intro x y hx hy
  rcases h with e | e | e
  · subst e; exact hb_1 x hx y hy
  · subst e; exact hb_2 x hx y hy
  · subst e; exact hb_4 x hx y hy
set_option maxHeartbeats 4000000 in
theorem vi_all {s w : Nat} (hs : s = 1 ∨ s = 2 ∨ s = 4) (hw0 : 0 < w) (hw : w ≤ 4) : ∃ (u : SX) (v : SY), i_Rel 2 u v ∧
    (∀ post : SX → Prop, post u → wX_init_258 post (nI w) (nI (s - 1)) 0 0 0 0 0 0 0 0 0 0 0 0 (fun _ => 0) (fun _ => 0) (fun _ => 0) (fun _ => 0) (fun _ => 0) (fun _ => 0) (fun _ => 0) (fun _ => 0) (fun _ => 0) (fun _ => 0) (fun _ => 0) (fun _ => 0) (fun _ => 0) (fun _ => 0) (fun _ => 0) (fun _ => 0) (fun _ => 0) (fun _ => 0) (fun _ => 0) (fun _ => 0) (fun _ => 0) (fun _ => 0) (fun _ => 0) (fun _ => 0) (fun _ => 0) (fun _ => 0)) ∧
    (∀ post : SY → Prop, post v → wY_init_282 post (nI w) (nI s) 0 0 0 0 0 0 0 0 0 0 0 0 0 0 0 0 (fun _ => 0) (fun _ => 0) (fun _ => 0) (fun _ => 0) (fun _ => 0) (fun _ => 0) (fun _ => 0) (fun _ => 0) (fun _ => 0) (fun _ => 0) (fun _ => 0) (fun _ => 0) (fun _ => 0) (fun _ => 0) (fun _ => 0) (fun _ => 0) (fun _ => 0) (fun _ => 0) (fun _ => 0) (fun _ => 0) (fun _ => 0) (fun _ => 0) (fun _ => 0) (fun _ => 0) (fun _ => 0) (fun _ => 0) (fun _ => 0) (fun _ => 0) (fun _ => 0)) := by
  have g0 : ∃ g : Nat → Nat → Nat, g = gh_n (fun _ _ => 0) 0 (gv_v 1 0 0 0 0 1 1 0 1 0) := ⟨_, rfl⟩
  obtain ⟨g, hg⟩ := g0
  have T : pg_t g (0 + 1) := by
    intro n hn
    have : n = 0 := by omega
    subst this
    rw [hg]
    exact pn_leaf (Or.inr ⟨rfl, by omega⟩)
  have gm : ∀ i, g i 0 = gv_v 1 0 0 0 0 1 1 0 1 0 i := fun i => by rw [hg]; exact gh_m i
  have XT : ∀ n, n ≤ 0 → xt_n g (upd (fun _ => 0) 0 1) (upd (fun _ => 0) 0 0) (upd (fun _ => 0) 0 0) (upd (fun _ => 0) 0 0) (upd (fun _ => 0) 0 0) (fun _ => 0) n := by
    intro n hn
    have : n = 0 := by omega
    subst this
    unfold xt_n
    rw [gm 0, gm 1, gm 2, gm 3, gm 4]
    exact ⟨rfl, rfl, rfl, rfl, fun h => absurd h (by decide), fun h => absurd h (by decide)⟩
  have YT : ∀ n, n ≤ 0 → yt_n g 0 (upd (fun _ => 0) 0 1) (fun _ => 0) (fun _ => 0) (fun _ => 0) (fun _ => 0) n := by
    intro n hn
    have : n = 0 := by omega
    subst this
    unfold yt_n
    rw [gm 0, gm 1, gm 2, gm 3, gm 4]
    exact ⟨rfl, fun _ => rfl, fun h => absurd h (by decide), fun h => absurd h (by decide), fun h => absurd h (by decide)⟩
  have hs0 : 0 < s := by omega
  have hs4 : s ≤ 4 := by omega
  obtain ⟨en, bd, x1, x2, x3, x4, x5, x6, y1, y2, y3, y4, y5, y6, y7, y8, y9, p1, p2, p3, p4, p5, p6, p7, p8, p9, p10, p11, q1, q2, q3, q4, q5, q6, q7, q8, q9, q10, q11, tb, bf, be, sn, ag, nd, ph, sm, sv, gr, me, us, l1, l2, K1, K2, K3, KX, KY⟩ := ad_all (g := g) (root := 0) (w := w) (s := s) (f_setBits := nI (s - 1)) (f_placeCount := nI w) (f_made := nI (0 + 1)) (f_height := nI (0 + 1)) (f_pathCount := 0) (f_greatestLength := 0) (f_worstTime := 0) (f_bestTime := 0) (f_worstCount := 0) (f_programBound := 0) (f_endingCount := 0) (f_chosen := 0) (f_time := 0) (a_kind := upd (fun _ => 0) 0 1) (a_first := upd (fun _ => 0) 0 0) (a_second := upd (fun _ => 0) 0 0) (a_low := upd (fun _ => 0) 0 0) (a_high := upd (fun _ => 0) 0 0) (a_parent := (fun _ => 0)) (a_pathsOf := upd (fun _ => 0) 0 (nI 1)) (a_lengthOf := upd (fun _ => 0) 0 (nI 1)) (a_choicesOf := upd (fun _ => 0) 0 (nI 0)) (a_stack := upd (fun _ => 0) 0 (nI 0)) (a_worstPath := (fun _ => 0)) (a_sureness := (fun _ => 0)) (a_mostMisses := (fun _ => 0)) (a_mostHits := (fun _ => 0)) (a_leastMisses := (fun _ => 0)) (a_endings := (fun _ => 0)) (a_runsHolding := (fun _ => 0)) (a_rounds := (fun _ => 0)) (a_path := (fun _ => 0)) (a_pathTop := (fun _ => 0)) (a_cache := (fun _ => 0)) (a_runMisses := (fun _ => 0)) (a_runHits := (fun _ => 0)) (a_table := (fun _ => 0)) (a_before := (fun _ => 0)) (a_behind := (fun _ => 0)) (h_sets := nI s) (h_places := nI w) (h_made := 0) (h_depth := 0) (h_size := nI (0 + 1)) (h_open := 0) (h_time := 0) (h_chosen := 0) (h_kept := 0) (h_worst := 0) (h_best := 0) (h_worstRuns := 0) (h_worstChoices := 0) (h_ends := 0) (h_bound := 0) (h_under := 0) (h_back := 0) (b_sorts := upd (fun _ => 0) 0 1) (b_lows := (fun _ => 0)) (b_highs := (fun _ => 0)) (b_firsts := (fun _ => 0)) (b_seconds := (fun _ => 0)) (b_stack := (fun _ => 0)) (b_pathsOf := upd (fun _ => 0) 0 1) (b_lengthOf := upd (fun _ => 0) 0 1) (b_choicesOf := (fun _ => 0)) (b_todo := (fun _ => 0)) (b_cache := (fun _ => 0)) (b_path := (fun _ => 0)) (b_tops := (fun _ => 0)) (b_missed := (fun _ => 0)) (b_struck := (fun _ => 0)) (b_worstPath := (fun _ => 0)) (b_mostMissed := (fun _ => 0)) (b_mostStruck := (fun _ => 0)) (b_leastMissed := (fun _ => 0)) (b_held := (fun _ => 0)) (b_contents := (fun _ => 0)) (b_ages := (fun _ => 0)) (b_phase := (fun _ => 0)) (b_node := (fun _ => 0)) (b_sum := (fun _ => 0)) (b_saved := (fun _ => 0)) (b_greatest := (fun _ => 0)) (b_met := (fun _ => 0)) (b_unsure := (fun _ => 0))
    T (by omega) hw0 hw hs0 hs4 (hb_s hs) rfl rfl rfl rfl rfl (by rw [gm 6]; decide) (by rw [gm 7]; decide) (by rw [gm 5]; decide) XT YT
  refine ⟨(nI (s - 1), nI w, 0, 0, upd (fun _ => 0) 0 (nI 1) 0, upd (fun _ => 0) 0 (nI 1) 0, x3, x4, x5, nI bd, x6, x1, x2, upd (fun _ => 0) 0 1, upd (fun _ => 0) 0 0, upd (fun _ => 0) 0 0, upd (fun _ => 0) 0 0, upd (fun _ => 0) 0 0, (fun _ => 0), upd (fun _ => 0) 0 (nI 1), upd (fun _ => 0) 0 (nI 1), upd (fun _ => 0) 0 (nI 0), upd (fun _ => 0) 0 (nI 0), p7, sn, p8, p9, p10, l1, p11, p1, p2, p3, p4, p5, p6, tb, bf, be), (nI s, nI w, 0, 0, nI (0 + 1), y1, y2, y3, y4, y5, y6, y7, y8, y9, nI bd, 0, nI bd, upd (fun _ => 0) 0 1, (fun _ => 0), (fun _ => 0), (fun _ => 0), (fun _ => 0), (fun _ => 0), upd (fun _ => 0) 0 1, upd (fun _ => 0) 0 1, (fun _ => 0), q1, q4, q2, q3, q5, q6, q7, q8, q9, q10, q11, l2, ag, ph, nd, sm, sv, gr, me, us), ?_, fun post H => ?_, fun post H => ?_⟩
  · refine ⟨w, s, ⟨hw0, hw, hs0, hs4, hb_s hs, rfl, rfl, rfl⟩, rl_B0 (g := g), ⟨g, 1, en, by omega, by omega, rfl, rfl, rfl, rfl, fun n hn => ?_, K1, K2, K3⟩⟩
    have : n = 0 := by omega
    subst this
    rw [gm 0]
    exact ⟨rfl, by decide⟩
  · unfold wX_init_258
    refine xp_leaf (m := 0) (h := 0) (by omega) (by omega) ?_
    refine KX _ ?_
    exact H
  · exact nm_e (nm_e (nm_e (KY _ H)))
theorem vi_x {post : SX → Prop} {k1 sb : Int32} {w : Nat} (hw : (k1 < 1 ∧ w = 1) ∨ (k1 = nI w ∧ 1 ≤ w ∧ w ≤ 4) ∨ (4 < k1 ∧ w = 4)) (H : wX_init_258 post (nI w) sb 0 0 0 0 0 0 0 0 0 0 0 0 (fun _ => 0) (fun _ => 0) (fun _ => 0) (fun _ => 0) (fun _ => 0) (fun _ => 0) (fun _ => 0) (fun _ => 0) (fun _ => 0) (fun _ => 0) (fun _ => 0) (fun _ => 0) (fun _ => 0) (fun _ => 0) (fun _ => 0) (fun _ => 0) (fun _ => 0) (fun _ => 0) (fun _ => 0) (fun _ => 0) (fun _ => 0) (fun _ => 0) (fun _ => 0) (fun _ => 0) (fun _ => 0) (fun _ => 0)) : wX_init_235 post k1 sb 0 0 0 0 0 0 0 0 0 0 0 0 0 (fun _ => 0) (fun _ => 0) (fun _ => 0) (fun _ => 0) (fun _ => 0) (fun _ => 0) (fun _ => 0) (fun _ => 0) (fun _ => 0) (fun _ => 0) (fun _ => 0) (fun _ => 0) (fun _ => 0) (fun _ => 0) (fun _ => 0) (fun _ => 0) (fun _ => 0) (fun _ => 0) (fun _ => 0) (fun _ => 0) (fun _ => 0) (fun _ => 0) (fun _ => 0) (fun _ => 0) (fun _ => 0) (fun _ => 0) := by
  rcases hw with ⟨h, e⟩ | ⟨h, e1, e2⟩ | ⟨h, e⟩
  · subst e
    exact br_f (Int32.not_le.mpr h) H
  · subst h
    exact br_t (nI_le (a := 1) e1 (by omega)) (br_t (nI_le (b := 4) e2 (by omega)) H)
  · subst e
    exact br_t (Int32.le_of_lt (Int32.lt_trans (by decide) h)) (br_f (Int32.not_le.mpr h) H)
theorem vi_y {post : SY → Prop} {k1 sb : Int32} {w : Nat} (hw : (k1 < 1 ∧ w = 1) ∨ (k1 = nI w ∧ 1 ≤ w ∧ w ≤ 4) ∨ (4 < k1 ∧ w = 4)) (H : wY_init_282 post (nI w) sb 0 0 0 0 0 0 0 0 0 0 0 0 0 0 0 0 (fun _ => 0) (fun _ => 0) (fun _ => 0) (fun _ => 0) (fun _ => 0) (fun _ => 0) (fun _ => 0) (fun _ => 0) (fun _ => 0) (fun _ => 0) (fun _ => 0) (fun _ => 0) (fun _ => 0) (fun _ => 0) (fun _ => 0) (fun _ => 0) (fun _ => 0) (fun _ => 0) (fun _ => 0) (fun _ => 0) (fun _ => 0) (fun _ => 0) (fun _ => 0) (fun _ => 0) (fun _ => 0) (fun _ => 0) (fun _ => 0) (fun _ => 0) (fun _ => 0)) : wY_init_259 post k1 sb 0 0 0 0 0 0 0 0 0 0 0 0 0 0 0 0 0 (fun _ => 0) (fun _ => 0) (fun _ => 0) (fun _ => 0) (fun _ => 0) (fun _ => 0) (fun _ => 0) (fun _ => 0) (fun _ => 0) (fun _ => 0) (fun _ => 0) (fun _ => 0) (fun _ => 0) (fun _ => 0) (fun _ => 0) (fun _ => 0) (fun _ => 0) (fun _ => 0) (fun _ => 0) (fun _ => 0) (fun _ => 0) (fun _ => 0) (fun _ => 0) (fun _ => 0) (fun _ => 0) (fun _ => 0) (fun _ => 0) (fun _ => 0) (fun _ => 0) := by
  rcases hw with ⟨h, e⟩ | ⟨h, e1, e2⟩ | ⟨h, e⟩
  · subst e
    exact br_f (Int32.not_le.mpr h) H
  · subst h
    exact br_t (nI_le (a := 1) e1 (by omega)) (br_t (nI_le (b := 4) e2 (by omega)) H)
  · subst e
    exact br_t (Int32.le_of_lt (Int32.lt_trans (by decide) h)) (br_f (Int32.not_le.mpr h) H)
theorem i_vc0 (k0 : Int32) (k1 : Int32) : wpX_init (fun u => wpY_init (fun v => i_Rel 2 u v) k0 k1) k0 k1 := by
  have hw : ∃ w : Nat, 0 < w ∧ w ≤ 4 ∧ ((k1 < 1 ∧ w = 1) ∨ (k1 = nI w ∧ 1 ≤ w ∧ w ≤ 4) ∨ (4 < k1 ∧ w = 4)) := by
    by_cases h : k1 < 1
    · exact ⟨1, by omega, by omega, Or.inl ⟨h, rfl⟩⟩
    · by_cases h4 : 4 < k1
      · exact ⟨4, by omega, by omega, Or.inr (Or.inr ⟨h4, rfl⟩)⟩
      · obtain ⟨j, hj, rfl⟩ := nI_of (x := k1) (fun z => h (Int32.lt_trans z (by decide)))
        have a := (nI_leI (a := 1) (by omega) hj).mp (Int32.not_lt.mp h)
        have b := (nI_leI (b := 4) hj (by omega)).mp (Int32.not_lt.mp h4)
        exact ⟨j, by omega, b, Or.inr (Or.inl ⟨rfl, a, b⟩)⟩
  obtain ⟨w, w0, w4, hw⟩ := hw
  by_cases h : 1 ≤ k0
  · by_cases h1 : k0 = 1
    · obtain ⟨u, v, R, HX, HY⟩ := vi_all (s := 2) (Or.inr (Or.inl rfl)) w0 w4
      exact br_t h (br_t h1 (vi_x hw (HX _ (br_t h (br_t h1 (vi_y hw (HY _ R)))))))
    · obtain ⟨u, v, R, HX, HY⟩ := vi_all (s := 4) (Or.inr (Or.inr rfl)) w0 w4
      exact br_t h (br_f h1 (vi_x hw (HX _ (br_t h (br_f h1 (vi_y hw (HY _ R)))))))
  · obtain ⟨u, v, R, HX, HY⟩ := vi_all (s := 1) (Or.inl rfl) w0 w4
    exact br_f h (vi_x hw (HX _ (br_f h (vi_y hw (HY _ R)))))
