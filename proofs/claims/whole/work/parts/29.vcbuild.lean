/-! access, work, join, loop, discard -/
theorem vl_add {a b : Nat} : min (min a 1000 + min b 1000) 1000 = min (a + b) 1000 := by omega
theorem vl_max {a b : Nat} : min (max (min a 1000) (min b 1000)) 1000 = min (max a b) 1000 := by omega
theorem vl_max2 {a b : Nat} : max (min a 1000) (min b 1000) = min (max a b) 1000 := by omega
theorem vl_max1 {a b : Nat} : min (1 + max (min a 1000) (min b 1000)) 1000 = min (1 + max a b) 1000 := by omega
theorem vl_lt {a b : Nat} : min a 1000 * min b 1000 < 2 ^ 31 := by
  have : min a 1000 * min b 1000 ≤ 1000 * 1000 := Nat.mul_le_mul (Nat.min_le_right _ _) (Nat.min_le_right _ _)
  omega
theorem lk_w {ar : Nat → Int32} {m : Nat} {x : Int32} : ∀ n, n < 18 → upd ar (18 + m) x n = ar n := fun n hn => us_n (by omega)
theorem i_vc_access {k : Nat} {u : SX} {v : SY} (I : i_Rel k u v) (hk : k + 3 ≤ 1538) (v1 : Int32) : wpX_access (fun r u' => wpY_access (fun r' v' => r' = r ∧ i_Rel (k + 3) u' v') v v1) u v1 := by
  obtain ⟨f_setBits, f_placeCount, f_made, f_height, f_pathCount, f_greatestLength, f_worstTime, f_bestTime, f_worstCount, f_programBound, f_endingCount, f_chosen, f_time, a_kind, a_first, a_second, a_low, a_high, a_parent, a_pathsOf, a_lengthOf, a_choicesOf, a_stack, a_worstPath, a_sureness, a_mostMisses, a_mostHits, a_leastMisses, a_endings, a_runsHolding, a_rounds, a_path, a_pathTop, a_cache, a_runMisses, a_runHits, a_table, a_before, a_behind⟩ := u
  obtain ⟨h_sets, h_places, h_made, h_depth, h_size, h_open, h_time, h_chosen, h_kept, h_worst, h_best, h_worstRuns, h_worstChoices, h_ends, h_bound, h_under, h_back, b_sorts, b_lows, b_highs, b_firsts, b_seconds, b_stack, b_pathsOf, b_lengthOf, b_choicesOf, b_todo, b_cache, b_path, b_tops, b_missed, b_struck, b_worstPath, b_mostMissed, b_mostStruck, b_leastMissed, b_held, b_contents, b_ages, b_phase, b_node, b_sum, b_saved, b_greatest, b_met, b_unsure⟩ := v
  have I2 := I
  obtain ⟨w, s, C, ⟨g, sk, ma, he, T, S, e1, e2, e3, e4, St, XT, YT, MX, MY⟩, A⟩ := I2
  subst e1 e2 e3 e4
  have hma := S.2.1
  have hhe := S.1
  by_cases h : v1 < 0
  · exact br_t h (br_t h ⟨rfl, I⟩)
  · obtain ⟨j, hj, rfl⟩ := nI_of h
    by_cases y : j < 12
    · have y11 : nI j ≤ 11 := nI_le (b := 11) (by omega) (by omega)
      refine br_f h (br_t (nI_lt (b := 12) y (by omega)) ?_)
      by_cases z : ma < 18
      · refine br_t (nI_lt (b := 18) z (by omega)) ?_
        refine xp_leaf z (by omega) ?_
        refine br_f h (br_t y11 (br_f (by rw [show (18 : Int32) = nI 18 from rfl, nI_eq (by omega) (by omega)]; omega) ?_))
        refine ym_make z (by omega) (fun Q HQ => ym_leaf z (by rw [us_s]; decide) (by rw [us_s]; decide) (by rw [us_s]; decide) HQ) ?_
        refine ⟨rfl, w, s, C, bl_leaf (k := 0) T S z St XT YT MX MY (Or.inl ⟨rfl, y⟩), rl_A_low A (fun n hn => ⟨lk_w n hn, lk_w n hn, lk_w n hn⟩)⟩
      · have : ma = 18 := by omega
        subst this
        exact br_f (nI_nlt (b := 18) (by omega) (by omega)) (br_f h (br_t y11 (br_t rfl ⟨rfl, I⟩)))
    · exact br_f h (br_f (nI_nlt (b := 12) (by omega) (by omega)) (br_f h (br_f (nI_ge (a := 11) (by omega) (by omega)) ⟨rfl, I⟩)))
theorem i_vc_work {k : Nat} {u : SX} {v : SY} (I : i_Rel k u v) (hk : k + 3 ≤ 1538) (v1 : Int32) : wpX_work (fun r u' => wpY_work (fun r' v' => r' = r ∧ i_Rel (k + 3) u' v') v v1) u v1 := by
  obtain ⟨f_setBits, f_placeCount, f_made, f_height, f_pathCount, f_greatestLength, f_worstTime, f_bestTime, f_worstCount, f_programBound, f_endingCount, f_chosen, f_time, a_kind, a_first, a_second, a_low, a_high, a_parent, a_pathsOf, a_lengthOf, a_choicesOf, a_stack, a_worstPath, a_sureness, a_mostMisses, a_mostHits, a_leastMisses, a_endings, a_runsHolding, a_rounds, a_path, a_pathTop, a_cache, a_runMisses, a_runHits, a_table, a_before, a_behind⟩ := u
  obtain ⟨h_sets, h_places, h_made, h_depth, h_size, h_open, h_time, h_chosen, h_kept, h_worst, h_best, h_worstRuns, h_worstChoices, h_ends, h_bound, h_under, h_back, b_sorts, b_lows, b_highs, b_firsts, b_seconds, b_stack, b_pathsOf, b_lengthOf, b_choicesOf, b_todo, b_cache, b_path, b_tops, b_missed, b_struck, b_worstPath, b_mostMissed, b_mostStruck, b_leastMissed, b_held, b_contents, b_ages, b_phase, b_node, b_sum, b_saved, b_greatest, b_met, b_unsure⟩ := v
  have I2 := I
  obtain ⟨w, s, C, ⟨g, sk, ma, he, T, S, e1, e2, e3, e4, St, XT, YT, MX, MY⟩, A⟩ := I2
  subst e1 e2 e3 e4
  have hma := S.2.1
  have hhe := S.1
  by_cases h : v1 < 0
  · exact br_t h (br_t h ⟨rfl, I⟩)
  · obtain ⟨j, hj, rfl⟩ := nI_of h
    by_cases y : j ≤ 50
    · have y50 : nI j ≤ 50 := nI_le (b := 50) (by omega) (by omega)
      refine br_f h (br_t y50 ?_)
      by_cases z : ma < 18
      · refine br_t (nI_lt (b := 18) z (by omega)) ?_
        refine xp_leaf z (by omega) ?_
        refine br_f h (br_t y50 (br_f (by rw [show (18 : Int32) = nI 18 from rfl, nI_eq (by omega) (by omega)]; omega) ?_))
        refine ym_make z (by omega) (fun Q HQ => ym_leaf z (by rw [us_s]; decide) (by rw [us_s]; decide) (by rw [us_s]; decide) HQ) ?_
        refine ⟨rfl, w, s, C, bl_leaf (k := 1) T S z St XT YT MX MY (Or.inr ⟨rfl, y⟩), rl_A_low A (fun n hn => ⟨lk_w n hn, lk_w n hn, lk_w n hn⟩)⟩
      · have : ma = 18 := by omega
        subst this
        exact br_f (nI_nlt (b := 18) (by omega) (by omega)) (br_f h (br_t y50 (br_t rfl ⟨rfl, I⟩)))
    · have y50 : ¬ nI j ≤ 50 := nI_ge (a := 50) (by omega) (by omega)
      exact br_f h (br_f y50 (br_f h (br_f y50 ⟨rfl, I⟩)))
theorem i_vc_discard {k : Nat} {u : SX} {v : SY} (I : i_Rel k u v) (hk : k + 3 ≤ 1538) : wpX_discard (fun r u' => wpY_discard (fun r' v' => r' = r ∧ i_Rel (k + 3) u' v') v) u := by
  obtain ⟨f_setBits, f_placeCount, f_made, f_height, f_pathCount, f_greatestLength, f_worstTime, f_bestTime, f_worstCount, f_programBound, f_endingCount, f_chosen, f_time, a_kind, a_first, a_second, a_low, a_high, a_parent, a_pathsOf, a_lengthOf, a_choicesOf, a_stack, a_worstPath, a_sureness, a_mostMisses, a_mostHits, a_leastMisses, a_endings, a_runsHolding, a_rounds, a_path, a_pathTop, a_cache, a_runMisses, a_runHits, a_table, a_before, a_behind⟩ := u
  obtain ⟨h_sets, h_places, h_made, h_depth, h_size, h_open, h_time, h_chosen, h_kept, h_worst, h_best, h_worstRuns, h_worstChoices, h_ends, h_bound, h_under, h_back, b_sorts, b_lows, b_highs, b_firsts, b_seconds, b_stack, b_pathsOf, b_lengthOf, b_choicesOf, b_todo, b_cache, b_path, b_tops, b_missed, b_struck, b_worstPath, b_mostMissed, b_mostStruck, b_leastMissed, b_held, b_contents, b_ages, b_phase, b_node, b_sum, b_saved, b_greatest, b_met, b_unsure⟩ := v
  obtain ⟨w, s, C, ⟨g, sk, ma, he, T, S, e1, e2, e3, e4, St, XT, YT, MX, MY⟩, A⟩ := I
  subst e1 e2 e3 e4
  exact ⟨rfl, w, s, C, ⟨g, sk, 0, 0, fun n hn => by omega, ⟨by omega, by omega, fun i hi => by omega, fun h => by omega, fun i hi => by omega, fun i j _ hj => by omega, fun i n hi => by omega⟩, rfl, rfl, rfl, rfl, fun i hi => by omega, fun n hn => by omega, fun n hn => by omega, fun n hn => by omega, fun n hn => by omega⟩, A⟩
