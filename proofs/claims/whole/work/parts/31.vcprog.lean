/-! program, and the new object -/
theorem yo_58 {h_sets : Int32} {h_places : Int32} {h_made : Int32} {h_depth : Int32} {h_size : Int32} {h_open : Int32} {h_time : Int32} {h_chosen : Int32} {h_kept : Int32} {h_worst : Int32} {h_best : Int32} {h_worstRuns : Int32} {h_worstChoices : Int32} {h_ends : Int32} {h_bound : Int32} {h_under : Int32} {h_back : Int32} {b_sorts : Nat → Int32} {b_lows : Nat → Int32} {b_highs : Nat → Int32} {b_firsts : Nat → Int32} {b_seconds : Nat → Int32} {b_stack : Nat → Int32} {b_pathsOf : Nat → Int32} {b_lengthOf : Nat → Int32} {b_choicesOf : Nat → Int32} {b_todo : Nat → Int32} {b_cache : Nat → Int32} {b_path : Nat → Int32} {b_tops : Nat → Int32} {b_missed : Nat → Int32} {b_struck : Nat → Int32} {b_worstPath : Nat → Int32} {b_mostMissed : Nat → Int32} {b_mostStruck : Nat → Int32} {b_leastMissed : Nat → Int32} {b_held : Nat → Int32} {b_contents : Nat → Int64} {b_ages : Nat → Int32} {b_phase : Nat → Int32} {b_node : Nat → Int32} {b_sum : Nat → Int32} {b_saved : Nat → Int32} {b_greatest : Nat → Int32} {b_met : Nat → Int32} {b_unsure : Nat → Int32} {post : Int32 → SY → Prop} {ma : Nat} (hma : ma ≤ 18) (hm : h_made = nI ma) (H : wpY_workAll (fun u => match u with | (h_sets, h_places, h_made, h_depth, h_size, h_open, h_time, h_chosen, h_kept, h_worst, h_best, h_worstRuns, h_worstChoices, h_ends, h_bound, h_under, h_back, b_sorts, b_lows, b_highs, b_firsts, b_seconds, b_stack, b_pathsOf, b_lengthOf, b_choicesOf, b_todo, b_cache, b_path, b_tops, b_missed, b_struck, b_worstPath, b_mostMissed, b_mostStruck, b_leastMissed, b_held, b_contents, b_ages, b_phase, b_node, b_sum, b_saved, b_greatest, b_met, b_unsure) => post h_size (h_sets, h_places, h_made, h_depth, h_size, h_open, h_time, h_chosen, h_kept, h_worst, h_best, h_worstRuns, h_worstChoices, h_ends, h_bound, h_under, h_back, b_sorts, b_lows, b_highs, b_firsts, b_seconds, b_stack, b_pathsOf, b_lengthOf, b_choicesOf, b_todo, b_cache, b_path, b_tops, b_missed, b_struck, b_worstPath, b_mostMissed, b_mostStruck, b_leastMissed, b_held, b_contents, b_ages, b_phase, b_node, b_sum, b_saved, b_greatest, b_met, b_unsure)) (h_sets, h_places, 0, 0, nI ma, h_open, h_time, h_chosen, h_kept, h_worst, h_best, h_worstRuns, h_worstChoices, h_ends, h_bound, h_under, h_back, sw_f (fun j => b_sorts (18 + j)) b_sorts ma, sw_f (fun j => b_lows (18 + j)) b_lows ma, sw_f (fun j => b_highs (18 + j)) b_highs ma, sw_f (fun j => b_firsts (18 + j)) b_firsts ma, sw_f (fun j => b_seconds (18 + j)) b_seconds ma, b_stack, sw_f (fun j => b_pathsOf (18 + j)) b_pathsOf ma, sw_f (fun j => b_lengthOf (18 + j)) b_lengthOf ma, b_choicesOf, b_todo, b_cache, b_path, b_tops, b_missed, b_struck, b_worstPath, b_mostMissed, b_mostStruck, b_leastMissed, b_held, b_contents, b_ages, b_phase, b_node, b_sum, b_saved, b_greatest, b_met, b_unsure)) :
    ∀ d i, i + d = ma → wY_program_58 post h_sets h_places h_made h_depth h_size h_open h_time h_chosen h_kept h_worst h_best h_worstRuns h_worstChoices h_ends h_bound h_under h_back (d + 1) (nI i) (sw_f (fun j => b_sorts (18 + j)) b_sorts i) (sw_f (fun j => b_lows (18 + j)) b_lows i) (sw_f (fun j => b_highs (18 + j)) b_highs i) (sw_f (fun j => b_firsts (18 + j)) b_firsts i) (sw_f (fun j => b_seconds (18 + j)) b_seconds i) b_stack (sw_f (fun j => b_pathsOf (18 + j)) b_pathsOf i) (sw_f (fun j => b_lengthOf (18 + j)) b_lengthOf i) b_choicesOf b_todo b_cache b_path b_tops b_missed b_struck b_worstPath b_mostMissed b_mostStruck b_leastMissed b_held b_contents b_ages b_phase b_node b_sum b_saved b_greatest b_met b_unsure := by
  subst hm
  intro d
  induction d with
  | zero =>
    intro i hi
    have hi : i = ma := by omega
    subst hi
    exact br_t (nI_le (Nat.le_refl _) (by omega)) H
  | succ d ih =>
    intro i hi
    have c : (nI i).toNatClampNeg = i := nI_clamp (by omega)
    have ii : vp_in (nI i) 36 := vp_in_nI (by omega) (by omega)
    have rc := yr_c (show i < 18 by omega)
    have ri := yr_i (show i < 18 by omega)
    have hi2 := ih (i + 1) (by omega)
    refine br_f (nI_ge (by omega) (by omega)) ⟨ri, ii, ?_⟩
    rw [c, rc, sw_ge (by omega), sw_ge (by omega), sw_ge (by omega), sw_ge (by omega), sw_ge (by omega), sw_ge (by omega), sw_ge (by omega)]
    rw [sw_u rfl, sw_u rfl, sw_u rfl, sw_u rfl, sw_u rfl, sw_u rfl, sw_u rfl]
    exact nm_e ⟨ri, ii, nm_e ⟨ri, ii, nm_e ⟨ri, ii, nm_e ⟨ri, ii, nm_e ⟨ri, ii, nm_e ⟨ri, ii, nm_e (nm_r (nI_1 i) hi2)⟩⟩⟩⟩⟩⟩
theorem rl_B0 {g : Nat → Nat → Nat} {ki fi se lo hi pa xp xl xc xs so yl yh yf ys yp yn yc yk : Nat → Int32} : rl_B 0 0 0 0 ki fi se lo hi pa xp xl xc xs so yl yh yf ys yp yn yc yk :=
  ⟨g, fun _ => 0, 0, 0, fun n hn => by omega, ⟨by omega, by omega, fun i hi => by omega, fun h => by omega, fun i hi => by omega, fun i j _ hj => by omega, fun i n hi => by omega⟩, rfl, rfl, rfl, rfl, fun i hi => by omega, fun n hn => by omega, fun n hn => by omega, fun n hn => by omega, fun n hn => by omega⟩
set_option maxHeartbeats 4000000 in
theorem i_vc_program {k : Nat} {u : SX} {v : SY} (I : i_Rel k u v) (hk : k + 3 ≤ 1538) : wpX_program (fun r u' => wpY_program (fun r' v' => r' = r ∧ i_Rel (k + 3) u' v') v) u := by
  obtain ⟨f_setBits, f_placeCount, f_made, f_height, f_pathCount, f_greatestLength, f_worstTime, f_bestTime, f_worstCount, f_programBound, f_endingCount, f_chosen, f_time, a_kind, a_first, a_second, a_low, a_high, a_parent, a_pathsOf, a_lengthOf, a_choicesOf, a_stack, a_worstPath, a_sureness, a_mostMisses, a_mostHits, a_leastMisses, a_endings, a_runsHolding, a_rounds, a_path, a_pathTop, a_cache, a_runMisses, a_runHits, a_table, a_before, a_behind⟩ := u
  obtain ⟨h_sets, h_places, h_made, h_depth, h_size, h_open, h_time, h_chosen, h_kept, h_worst, h_best, h_worstRuns, h_worstChoices, h_ends, h_bound, h_under, h_back, b_sorts, b_lows, b_highs, b_firsts, b_seconds, b_stack, b_pathsOf, b_lengthOf, b_choicesOf, b_todo, b_cache, b_path, b_tops, b_missed, b_struck, b_worstPath, b_mostMissed, b_mostStruck, b_leastMissed, b_held, b_contents, b_ages, b_phase, b_node, b_sum, b_saved, b_greatest, b_met, b_unsure⟩ := v
  have I2 := I
  obtain ⟨w, s, C, ⟨g, sk, ma, he, T, S, e1, e2, e3, e4, St, XT, YT, MX, MY⟩, A⟩ := I2
  subst e1 e2 e3 e4
  have hma := S.2.1
  have hhe := S.1
  by_cases h1 : he = 1
  · subst h1
    obtain ⟨root, rfl⟩ : ∃ root, ma = root + 1 := ⟨ma - 1, by omega⟩
    have hr : sk 0 = root := by
      have : sk 0 + 1 = root + 1 := S.2.2.2.1 (by omega)
      omega
    obtain ⟨sx0, sy0⟩ := St 0 (by omega)
    rw [hr] at sx0 sy0
    have c : (nI root).toNatClampNeg = root := nI_clamp (by omega)
    have i18 : vp_in (nI root) 18 := vp_in_nI (by omega) (by omega)
    have et : 17 + nI (root + 1) = nI (18 + root) := by
      rw [show (17 : Int32) = nI 17 from rfl, nI_add]
      exact congrArg nI (by omega)
    have ct : (nI (18 + root)).toNatClampNeg = 18 + root := nI_clamp (by omega)
    have i36 : vp_in (nI (18 + root)) 36 := vp_in_nI (by omega) (by omega)
    obtain ⟨m1, m2, m3⟩ := MX root (by omega)
    obtain ⟨n1, n2, n3⟩ := MY root (by omega)
    rw [Nat.zero_add] at m1 m2 m3
    have one : nI 1 = 1 := rfl
    have gt : ∀ (x y : Nat), y < 900 → (nI y < nI (min x 1000) ↔ y < x) := by
      intro x y hy
      rw [nI_ltI (by omega) (by omega)]
      omega
    refine br_t one (nm_r sx0 ⟨i18, ?_⟩)
    rw [c, m1, m2, m3]
    by_cases p1 : 150 < g 5 root
    · refine br_t ((gt _ 150 (by omega)).mpr p1) (br_t one (nm_r et ⟨i36, ?_⟩))
      rw [ct, n1]
      exact br_t ((gt _ 150 (by omega)).mpr p1) ⟨rfl, I⟩
    have q1 : ¬ (150 : Int32) < nI (min (g 5 root) 1000) := fun z => p1 ((gt _ 150 (by omega)).mp z)
    by_cases p2 : 120 < g 6 root
    · have q2 : (120 : Int32) < nI (min (g 6 root) 1000) := (gt _ 120 (by omega)).mpr p2
      refine br_f q1 ⟨i18, br_t q2 (br_t one (nm_r et ⟨i36, ?_⟩))⟩
      rw [ct, n1, n2]
      exact br_f q1 ⟨i36, br_t q2 ⟨rfl, I⟩⟩
    have q2 : ¬ (120 : Int32) < nI (min (g 6 root) 1000) := fun z => p2 ((gt _ 120 (by omega)).mp z)
    by_cases p3 : 20 < g 7 root
    · have q3 : ¬ nI (min (g 7 root) 1000) ≤ 20 := Int32.not_le.mpr ((gt _ 20 (by omega)).mpr p3)
      refine br_f q1 ⟨i18, br_f q2 ⟨i18, br_f q3 (br_t one (nm_r et ⟨i36, ?_⟩))⟩⟩
      rw [ct, n1, n2, n3]
      exact br_f q1 ⟨i36, br_f q2 ⟨i36, br_f q3 ⟨rfl, I⟩⟩⟩
    have q3 : nI (min (g 7 root) 1000) ≤ 20 := Int32.not_lt.mp (fun z => p3 ((gt _ 20 (by omega)).mp z))
    obtain ⟨c1, c2, c3, c4, c5, c6, c7, c8⟩ := C
    have YT0 : ∀ n, n ≤ root → yt_n g 0 (sw_f (fun j => b_sorts (18 + j)) b_sorts (root + 1)) (sw_f (fun j => b_lows (18 + j)) b_lows (root + 1)) (sw_f (fun j => b_highs (18 + j)) b_highs (root + 1)) (sw_f (fun j => b_firsts (18 + j)) b_firsts (root + 1)) (sw_f (fun j => b_seconds (18 + j)) b_seconds (root + 1)) n := by
      intro n hn
      have y := YT n (by omega)
      unfold yt_n at y ⊢
      rw [Nat.zero_add, sw_lt (by omega), sw_lt (by omega), sw_lt (by omega), sw_lt (by omega), sw_lt (by omega)]
      exact y
    obtain ⟨en, bd, x1, x2, x3, x4, x5, x6, y1, y2, y3, y4, y5, y6, y7, y8, y9, p1', p2', p3', p4', p5', p6', p7', p8', p9', p10', p11', r1, r2, r3, r4, r5, r6, r7, r8, r9, r10, r11, tb, bf, be, sn, ag, nd, ph, sm, sv, gr, me, us, l1, l2, K1, K2, K3, KX, KY⟩ := ad_all (g := g) (root := root) (w := w) (s := s) (f_setBits := f_setBits) (f_placeCount := f_placeCount) (f_made := nI (root + 1)) (f_height := nI 1) (f_pathCount := f_pathCount) (f_greatestLength := f_greatestLength) (f_worstTime := f_worstTime) (f_bestTime := f_bestTime) (f_worstCount := f_worstCount) (f_programBound := f_programBound) (f_endingCount := f_endingCount) (f_chosen := f_chosen) (f_time := f_time) (a_kind := a_kind) (a_first := a_first) (a_second := a_second) (a_low := a_low) (a_high := a_high) (a_parent := a_parent) (a_pathsOf := a_pathsOf) (a_lengthOf := a_lengthOf) (a_choicesOf := a_choicesOf) (a_stack := a_stack) (a_worstPath := a_worstPath) (a_sureness := a_sureness) (a_mostMisses := a_mostMisses) (a_mostHits := a_mostHits) (a_leastMisses := a_leastMisses) (a_endings := a_endings) (a_runsHolding := a_runsHolding) (a_rounds := a_rounds) (a_path := a_path) (a_pathTop := a_pathTop) (a_cache := a_cache) (a_runMisses := a_runMisses) (a_runHits := a_runHits) (a_table := a_table) (a_before := a_before) (a_behind := a_behind) (h_sets := h_sets) (h_places := h_places) (h_made := 0) (h_depth := 0) (h_size := nI (root + 1)) (h_open := h_open) (h_time := h_time) (h_chosen := h_chosen) (h_kept := h_kept) (h_worst := h_worst) (h_best := h_best) (h_worstRuns := h_worstRuns) (h_worstChoices := h_worstChoices) (h_ends := h_ends) (h_bound := h_bound) (h_under := h_under) (h_back := h_back) (b_sorts := sw_f (fun j => b_sorts (18 + j)) b_sorts (root + 1)) (b_lows := sw_f (fun j => b_lows (18 + j)) b_lows (root + 1)) (b_highs := sw_f (fun j => b_highs (18 + j)) b_highs (root + 1)) (b_firsts := sw_f (fun j => b_firsts (18 + j)) b_firsts (root + 1)) (b_seconds := sw_f (fun j => b_seconds (18 + j)) b_seconds (root + 1)) (b_stack := b_stack) (b_pathsOf := sw_f (fun j => b_pathsOf (18 + j)) b_pathsOf (root + 1)) (b_lengthOf := sw_f (fun j => b_lengthOf (18 + j)) b_lengthOf (root + 1)) (b_choicesOf := b_choicesOf) (b_todo := b_todo) (b_cache := b_cache) (b_path := b_path) (b_tops := b_tops) (b_missed := b_missed) (b_struck := b_struck) (b_worstPath := b_worstPath) (b_mostMissed := b_mostMissed) (b_mostStruck := b_mostStruck) (b_leastMissed := b_leastMissed) (b_held := b_held) (b_contents := b_contents) (b_ages := b_ages) (b_phase := b_phase) (b_node := b_node) (b_sum := b_sum) (b_saved := b_saved) (b_greatest := b_greatest) (b_met := b_met) (b_unsure := b_unsure)
      T (by omega) c1 c2 c3 c4 c5 c6 c7 c8 rfl rfl (by omega) (by omega) (by omega) (fun n hn => XT n (by omega)) YT0
    refine br_f q1 ⟨i18, br_f q2 ⟨i18, br_t q3 ?_⟩⟩
    refine KX _ ?_
    refine br_t one (nm_r et ⟨i36, ?_⟩)
    rw [ct, n1, n2, n3]
    refine br_f q1 ⟨i36, br_f q2 ⟨i36, br_t q3 ⟨root + 2, ?_⟩⟩⟩
    have L := yo_58 (h_sets := h_sets) (h_places := h_places) (h_made := nI (root + 1)) (h_depth := nI 1) (h_size := h_size) (h_open := h_open) (h_time := h_time) (h_chosen := h_chosen) (h_kept := h_kept) (h_worst := h_worst) (h_best := h_best) (h_worstRuns := h_worstRuns) (h_worstChoices := h_worstChoices) (h_ends := h_ends) (h_bound := h_bound) (h_under := h_under) (h_back := h_back) (b_sorts := b_sorts) (b_lows := b_lows) (b_highs := b_highs) (b_firsts := b_firsts) (b_seconds := b_seconds) (b_stack := b_stack) (b_pathsOf := b_pathsOf) (b_lengthOf := b_lengthOf) (b_choicesOf := b_choicesOf) (b_todo := b_todo) (b_cache := b_cache) (b_path := b_path) (b_tops := b_tops) (b_missed := b_missed) (b_struck := b_struck) (b_worstPath := b_worstPath) (b_mostMissed := b_mostMissed) (b_mostStruck := b_mostStruck) (b_leastMissed := b_leastMissed) (b_held := b_held) (b_contents := b_contents) (b_ages := b_ages) (b_phase := b_phase) (b_node := b_node) (b_sum := b_sum) (b_saved := b_saved) (b_greatest := b_greatest) (b_met := b_met) (b_unsure := b_unsure) (ma := root + 1) (post := fun r' v' => r' = nI (root + 1) ∧ i_Rel (k + 3) (f_setBits, f_placeCount, 0, 0, nI (min (g 5 root) 1000), nI (min (g 6 root) 1000), x3, x4, x5, nI bd, x6, x1, x2, a_kind, a_first, a_second, a_low, a_high, a_parent, a_pathsOf, a_lengthOf, a_choicesOf, a_stack, p7', sn, p8', p9', p10', l1, p11', p1', p2', p3', p4', p5', p6', tb, bf, be) v') (by omega) rfl (KY _ ?_) (root + 1) 0 (by omega)
    · rw [sw_0, sw_0, sw_0, sw_0, sw_0, sw_0, sw_0] at L
      rw [m1, m2]
      exact L
    · refine ⟨rfl, w, s, ⟨c1, c2, c3, c4, c5, c6, c7, c8⟩, rl_B0 (g := g), ⟨g, root + 1, en, by omega, by omega, rfl, ?_, ?_, rfl, fun n hn => ?_, K1, K2, K3⟩⟩
      · rw [Nat.add_sub_cancel, sw_lt (by omega)]; exact n1.symm
      · rw [Nat.add_sub_cancel, sw_lt (by omega)]; exact n2.symm
      · rw [sw_lt hn]; exact ⟨(YT n hn).1, pg_kd (T n hn)⟩
  · have n1 : ¬ nI he = 1 := by rw [show (1 : Int32) = nI 1 from rfl, nI_eq (by omega) (by omega)]; exact h1
    exact br_f n1 (br_f n1 ⟨rfl, I⟩)
