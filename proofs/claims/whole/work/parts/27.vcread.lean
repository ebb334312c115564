/-! the methods that only read -/
theorem xi_no {Q : Int32 → Prop} {v : Int32} (h : v < 0 ∨ 18 ≤ v) (H : Q 0) : wpX_isNumber Q v := by
  by_cases z : v < 0
  · exact br_t z H
  · exact br_f z (br_t (h.resolve_left z) H)
theorem xi_yes {Q : Int32 → Prop} {j : Nat} (h : j < 18) (H : Q 1) : wpX_isNumber Q (nI j) :=
  br_f (nI_pos (by omega)) (br_f (nI_ge (b := 18) h (by omega)) H)
theorem yi_neg {h_sets : Int32} {h_places : Int32} {h_made : Int32} {h_depth : Int32} {h_size : Int32} {h_open : Int32} {h_time : Int32} {h_chosen : Int32} {h_kept : Int32} {h_worst : Int32} {h_best : Int32} {h_worstRuns : Int32} {h_worstChoices : Int32} {h_ends : Int32} {h_bound : Int32} {h_under : Int32} {h_back : Int32} {b_sorts : Nat → Int32} {b_lows : Nat → Int32} {b_highs : Nat → Int32} {b_firsts : Nat → Int32} {b_seconds : Nat → Int32} {b_stack : Nat → Int32} {b_pathsOf : Nat → Int32} {b_lengthOf : Nat → Int32} {b_choicesOf : Nat → Int32} {b_todo : Nat → Int32} {b_cache : Nat → Int32} {b_path : Nat → Int32} {b_tops : Nat → Int32} {b_missed : Nat → Int32} {b_struck : Nat → Int32} {b_worstPath : Nat → Int32} {b_mostMissed : Nat → Int32} {b_mostStruck : Nat → Int32} {b_leastMissed : Nat → Int32} {b_held : Nat → Int32} {b_contents : Nat → Int64} {b_ages : Nat → Int32} {b_phase : Nat → Int32} {b_node : Nat → Int32} {b_sum : Nat → Int32} {b_saved : Nat → Int32} {b_greatest : Nat → Int32} {b_met : Nat → Int32} {b_unsure : Nat → Int32} {Q : Int32 → Prop} {v : Int32} (h : v < 0) (H : Q 1) : wpY_noAccess Q (h_sets, h_places, h_made, h_depth, h_size, h_open, h_time, h_chosen, h_kept, h_worst, h_best, h_worstRuns, h_worstChoices, h_ends, h_bound, h_under, h_back, b_sorts, b_lows, b_highs, b_firsts, b_seconds, b_stack, b_pathsOf, b_lengthOf, b_choicesOf, b_todo, b_cache, b_path, b_tops, b_missed, b_struck, b_worstPath, b_mostMissed, b_mostStruck, b_leastMissed, b_held, b_contents, b_ages, b_phase, b_node, b_sum, b_saved, b_greatest, b_met, b_unsure) v := br_t h H
theorem yi_no {h_sets : Int32} {h_places : Int32} {h_made : Int32} {h_depth : Int32} {h_size : Int32} {h_open : Int32} {h_time : Int32} {h_chosen : Int32} {h_kept : Int32} {h_worst : Int32} {h_best : Int32} {h_worstRuns : Int32} {h_worstChoices : Int32} {h_ends : Int32} {h_bound : Int32} {h_under : Int32} {h_back : Int32} {b_sorts : Nat → Int32} {b_lows : Nat → Int32} {b_highs : Nat → Int32} {b_firsts : Nat → Int32} {b_seconds : Nat → Int32} {b_stack : Nat → Int32} {b_pathsOf : Nat → Int32} {b_lengthOf : Nat → Int32} {b_choicesOf : Nat → Int32} {b_todo : Nat → Int32} {b_cache : Nat → Int32} {b_path : Nat → Int32} {b_tops : Nat → Int32} {b_missed : Nat → Int32} {b_struck : Nat → Int32} {b_worstPath : Nat → Int32} {b_mostMissed : Nat → Int32} {b_mostStruck : Nat → Int32} {b_leastMissed : Nat → Int32} {b_held : Nat → Int32} {b_contents : Nat → Int64} {b_ages : Nat → Int32} {b_phase : Nat → Int32} {b_node : Nat → Int32} {b_sum : Nat → Int32} {b_saved : Nat → Int32} {b_greatest : Nat → Int32} {b_met : Nat → Int32} {b_unsure : Nat → Int32} {Q : Int32 → Prop} {j sz : Nat} (hj : j < 2 ^ 31) (hs : sz ≤ 18) (hsz : h_size = nI sz) (h : j < sz → ¬ b_sorts j = 0) (H : Q 1) : wpY_noAccess Q (h_sets, h_places, h_made, h_depth, h_size, h_open, h_time, h_chosen, h_kept, h_worst, h_best, h_worstRuns, h_worstChoices, h_ends, h_bound, h_under, h_back, b_sorts, b_lows, b_highs, b_firsts, b_seconds, b_stack, b_pathsOf, b_lengthOf, b_choicesOf, b_todo, b_cache, b_path, b_tops, b_missed, b_struck, b_worstPath, b_mostMissed, b_mostStruck, b_leastMissed, b_held, b_contents, b_ages, b_phase, b_node, b_sum, b_saved, b_greatest, b_met, b_unsure) (nI j) := by
  subst hsz
  refine br_f (nI_pos hj) ?_
  by_cases z : j < sz
  · have c : (nI j).toNatClampNeg = j := nI_clamp (by omega)
    refine br_f (nI_ge z (by omega)) ⟨vp_in_nI (by omega) (by omega), ?_⟩
    rw [c]
    exact br_f (h z) H
  · exact br_t (nI_le (by omega) hj) H
theorem yi_yes {h_sets : Int32} {h_places : Int32} {h_made : Int32} {h_depth : Int32} {h_size : Int32} {h_open : Int32} {h_time : Int32} {h_chosen : Int32} {h_kept : Int32} {h_worst : Int32} {h_best : Int32} {h_worstRuns : Int32} {h_worstChoices : Int32} {h_ends : Int32} {h_bound : Int32} {h_under : Int32} {h_back : Int32} {b_sorts : Nat → Int32} {b_lows : Nat → Int32} {b_highs : Nat → Int32} {b_firsts : Nat → Int32} {b_seconds : Nat → Int32} {b_stack : Nat → Int32} {b_pathsOf : Nat → Int32} {b_lengthOf : Nat → Int32} {b_choicesOf : Nat → Int32} {b_todo : Nat → Int32} {b_cache : Nat → Int32} {b_path : Nat → Int32} {b_tops : Nat → Int32} {b_missed : Nat → Int32} {b_struck : Nat → Int32} {b_worstPath : Nat → Int32} {b_mostMissed : Nat → Int32} {b_mostStruck : Nat → Int32} {b_leastMissed : Nat → Int32} {b_held : Nat → Int32} {b_contents : Nat → Int64} {b_ages : Nat → Int32} {b_phase : Nat → Int32} {b_node : Nat → Int32} {b_sum : Nat → Int32} {b_saved : Nat → Int32} {b_greatest : Nat → Int32} {b_met : Nat → Int32} {b_unsure : Nat → Int32} {Q : Int32 → Prop} {j sz : Nat} (hs : sz ≤ 18) (hsz : h_size = nI sz) (z : j < sz) (h : b_sorts j = 0) (H : Q 0) : wpY_noAccess Q (h_sets, h_places, h_made, h_depth, h_size, h_open, h_time, h_chosen, h_kept, h_worst, h_best, h_worstRuns, h_worstChoices, h_ends, h_bound, h_under, h_back, b_sorts, b_lows, b_highs, b_firsts, b_seconds, b_stack, b_pathsOf, b_lengthOf, b_choicesOf, b_todo, b_cache, b_path, b_tops, b_missed, b_struck, b_worstPath, b_mostMissed, b_mostStruck, b_leastMissed, b_held, b_contents, b_ages, b_phase, b_node, b_sum, b_saved, b_greatest, b_met, b_unsure) (nI j) := by
  subst hsz
  have c : (nI j).toNatClampNeg = j := nI_clamp (by omega)
  refine br_f (nI_pos (by omega)) (br_f (nI_ge z (by omega)) ⟨vp_in_nI (by omega) (by omega), ?_⟩)
  rw [c]
  exact br_t h H
theorem rw_W {wt xc yc yw : Int32} {xp yp : Nat → Int32} {z : Nat} (h : nt_W wt xc yc yw xp yp) (hz : z ≤ 200000) (e : wt = nI z) : xc = yc ∧ ∃ wc, wc ≤ 20 ∧ yw = nI wc ∧ ∀ k, k < 20 → (k < wc → xp k = yp k) ∧ (¬ k < wc → xp k = -4) := by
  rcases h with y | y
  · exfalso
    rw [e] at y
    have := congrArg Int32.toInt y
    rw [nI_toInt (by omega)] at this
    have h2 : (-1 : Int32).toInt = -1 := by decide
    omega
  · exact y
theorem i_vc_depth {k : Nat} {u : SX} {v : SY} (I : i_Rel k u v) (hk : k + 3 ≤ 1538) : wpX_depth (fun r => wpY_depth (fun r' => r' = r ∧ i_Rel (k + 3) u v) v) u := by
  obtain ⟨f_setBits, f_placeCount, f_made, f_height, f_pathCount, f_greatestLength, f_worstTime, f_bestTime, f_worstCount, f_programBound, f_endingCount, f_chosen, f_time, a_kind, a_first, a_second, a_low, a_high, a_parent, a_pathsOf, a_lengthOf, a_choicesOf, a_stack, a_worstPath, a_sureness, a_mostMisses, a_mostHits, a_leastMisses, a_endings, a_runsHolding, a_rounds, a_path, a_pathTop, a_cache, a_runMisses, a_runHits, a_table, a_before, a_behind⟩ := u
  obtain ⟨h_sets, h_places, h_made, h_depth, h_size, h_open, h_time, h_chosen, h_kept, h_worst, h_best, h_worstRuns, h_worstChoices, h_ends, h_bound, h_under, h_back, b_sorts, b_lows, b_highs, b_firsts, b_seconds, b_stack, b_pathsOf, b_lengthOf, b_choicesOf, b_todo, b_cache, b_path, b_tops, b_missed, b_struck, b_worstPath, b_mostMissed, b_mostStruck, b_leastMissed, b_held, b_contents, b_ages, b_phase, b_node, b_sum, b_saved, b_greatest, b_met, b_unsure⟩ := v
  have I2 := I
  obtain ⟨w, s, C, ⟨g, sk, ma, he, b1, b2, b3, b4, b5, b6, -⟩, A⟩ := I2
  exact ⟨by rw [b5, b6], I⟩
theorem i_vc_paths {k : Nat} {u : SX} {v : SY} (I : i_Rel k u v) (hk : k + 3 ≤ 1538) : wpX_paths (fun r => wpY_paths (fun r' => r' = r ∧ i_Rel (k + 3) u v) v) u := by
  obtain ⟨f_setBits, f_placeCount, f_made, f_height, f_pathCount, f_greatestLength, f_worstTime, f_bestTime, f_worstCount, f_programBound, f_endingCount, f_chosen, f_time, a_kind, a_first, a_second, a_low, a_high, a_parent, a_pathsOf, a_lengthOf, a_choicesOf, a_stack, a_worstPath, a_sureness, a_mostMisses, a_mostHits, a_leastMisses, a_endings, a_runsHolding, a_rounds, a_path, a_pathTop, a_cache, a_runMisses, a_runHits, a_table, a_before, a_behind⟩ := u
  obtain ⟨h_sets, h_places, h_made, h_depth, h_size, h_open, h_time, h_chosen, h_kept, h_worst, h_best, h_worstRuns, h_worstChoices, h_ends, h_bound, h_under, h_back, b_sorts, b_lows, b_highs, b_firsts, b_seconds, b_stack, b_pathsOf, b_lengthOf, b_choicesOf, b_todo, b_cache, b_path, b_tops, b_missed, b_struck, b_worstPath, b_mostMissed, b_mostStruck, b_leastMissed, b_held, b_contents, b_ages, b_phase, b_node, b_sum, b_saved, b_greatest, b_met, b_unsure⟩ := v
  have I2 := I
  obtain ⟨w, s, C, B, gp, sz, en, h1, h2, h3, h4, h5, -⟩ := I2
  have e : h_size - 1 = nI (sz - 1) := by
    obtain ⟨q, rfl⟩ : ∃ q, sz = q + 1 := ⟨sz - 1, by omega⟩
    rw [h3]; exact nI_pred q
  have c : (h_size - 1).toNatClampNeg = sz - 1 := by rw [e]; exact nI_clamp (by omega)
  exact And.intro (by rw [e]; exact vp_in_nI (by omega) (by omega)) ⟨by rw [c, h4], I⟩
theorem i_vc_length {k : Nat} {u : SX} {v : SY} (I : i_Rel k u v) (hk : k + 3 ≤ 1538) : wpX_length (fun r => wpY_length (fun r' => r' = r ∧ i_Rel (k + 3) u v) v) u := by
  obtain ⟨f_setBits, f_placeCount, f_made, f_height, f_pathCount, f_greatestLength, f_worstTime, f_bestTime, f_worstCount, f_programBound, f_endingCount, f_chosen, f_time, a_kind, a_first, a_second, a_low, a_high, a_parent, a_pathsOf, a_lengthOf, a_choicesOf, a_stack, a_worstPath, a_sureness, a_mostMisses, a_mostHits, a_leastMisses, a_endings, a_runsHolding, a_rounds, a_path, a_pathTop, a_cache, a_runMisses, a_runHits, a_table, a_before, a_behind⟩ := u
  obtain ⟨h_sets, h_places, h_made, h_depth, h_size, h_open, h_time, h_chosen, h_kept, h_worst, h_best, h_worstRuns, h_worstChoices, h_ends, h_bound, h_under, h_back, b_sorts, b_lows, b_highs, b_firsts, b_seconds, b_stack, b_pathsOf, b_lengthOf, b_choicesOf, b_todo, b_cache, b_path, b_tops, b_missed, b_struck, b_worstPath, b_mostMissed, b_mostStruck, b_leastMissed, b_held, b_contents, b_ages, b_phase, b_node, b_sum, b_saved, b_greatest, b_met, b_unsure⟩ := v
  have I2 := I
  obtain ⟨w, s, C, B, gp, sz, en, h1, h2, h3, h4, h5, -⟩ := I2
  have e : h_size - 1 = nI (sz - 1) := by
    obtain ⟨q, rfl⟩ : ∃ q, sz = q + 1 := ⟨sz - 1, by omega⟩
    rw [h3]; exact nI_pred q
  have c : (h_size - 1).toNatClampNeg = sz - 1 := by rw [e]; exact nI_clamp (by omega)
  exact And.intro (by rw [e]; exact vp_in_nI (by omega) (by omega)) ⟨by rw [c, h5], I⟩
theorem i_vc_worst {k : Nat} {u : SX} {v : SY} (I : i_Rel k u v) (hk : k + 3 ≤ 1538) : wpX_worst (fun r => wpY_worst (fun r' => r' = r ∧ i_Rel (k + 3) u v) v) u := by
  obtain ⟨f_setBits, f_placeCount, f_made, f_height, f_pathCount, f_greatestLength, f_worstTime, f_bestTime, f_worstCount, f_programBound, f_endingCount, f_chosen, f_time, a_kind, a_first, a_second, a_low, a_high, a_parent, a_pathsOf, a_lengthOf, a_choicesOf, a_stack, a_worstPath, a_sureness, a_mostMisses, a_mostHits, a_leastMisses, a_endings, a_runsHolding, a_rounds, a_path, a_pathTop, a_cache, a_runMisses, a_runHits, a_table, a_before, a_behind⟩ := u
  obtain ⟨h_sets, h_places, h_made, h_depth, h_size, h_open, h_time, h_chosen, h_kept, h_worst, h_best, h_worstRuns, h_worstChoices, h_ends, h_bound, h_under, h_back, b_sorts, b_lows, b_highs, b_firsts, b_seconds, b_stack, b_pathsOf, b_lengthOf, b_choicesOf, b_todo, b_cache, b_path, b_tops, b_missed, b_struck, b_worstPath, b_mostMissed, b_mostStruck, b_leastMissed, b_held, b_contents, b_ages, b_phase, b_node, b_sum, b_saved, b_greatest, b_met, b_unsure⟩ := v
  have I2 := I
  obtain ⟨w, s, C, B, gp, sz, en, h1, h2, h3, h4, h5, h6, h7, ⟨n1, n2, n3, n4, n5, n6, n7, n8, n9, n10, n11⟩, ⟨z, z1, z2⟩, h9⟩ := I2
  have W := rw_W n3 z1 z2
  exact ⟨n1.symm, I⟩
theorem i_vc_best {k : Nat} {u : SX} {v : SY} (I : i_Rel k u v) (hk : k + 3 ≤ 1538) : wpX_best (fun r => wpY_best (fun r' => r' = r ∧ i_Rel (k + 3) u v) v) u := by
  obtain ⟨f_setBits, f_placeCount, f_made, f_height, f_pathCount, f_greatestLength, f_worstTime, f_bestTime, f_worstCount, f_programBound, f_endingCount, f_chosen, f_time, a_kind, a_first, a_second, a_low, a_high, a_parent, a_pathsOf, a_lengthOf, a_choicesOf, a_stack, a_worstPath, a_sureness, a_mostMisses, a_mostHits, a_leastMisses, a_endings, a_runsHolding, a_rounds, a_path, a_pathTop, a_cache, a_runMisses, a_runHits, a_table, a_before, a_behind⟩ := u
  obtain ⟨h_sets, h_places, h_made, h_depth, h_size, h_open, h_time, h_chosen, h_kept, h_worst, h_best, h_worstRuns, h_worstChoices, h_ends, h_bound, h_under, h_back, b_sorts, b_lows, b_highs, b_firsts, b_seconds, b_stack, b_pathsOf, b_lengthOf, b_choicesOf, b_todo, b_cache, b_path, b_tops, b_missed, b_struck, b_worstPath, b_mostMissed, b_mostStruck, b_leastMissed, b_held, b_contents, b_ages, b_phase, b_node, b_sum, b_saved, b_greatest, b_met, b_unsure⟩ := v
  have I2 := I
  obtain ⟨w, s, C, B, gp, sz, en, h1, h2, h3, h4, h5, h6, h7, ⟨n1, n2, n3, n4, n5, n6, n7, n8, n9, n10, n11⟩, ⟨z, z1, z2⟩, h9⟩ := I2
  have W := rw_W n3 z1 z2
  exact ⟨n2.symm, I⟩
theorem i_vc_worstRuns {k : Nat} {u : SX} {v : SY} (I : i_Rel k u v) (hk : k + 3 ≤ 1538) : wpX_worstRuns (fun r => wpY_worstRuns (fun r' => r' = r ∧ i_Rel (k + 3) u v) v) u := by
  obtain ⟨f_setBits, f_placeCount, f_made, f_height, f_pathCount, f_greatestLength, f_worstTime, f_bestTime, f_worstCount, f_programBound, f_endingCount, f_chosen, f_time, a_kind, a_first, a_second, a_low, a_high, a_parent, a_pathsOf, a_lengthOf, a_choicesOf, a_stack, a_worstPath, a_sureness, a_mostMisses, a_mostHits, a_leastMisses, a_endings, a_runsHolding, a_rounds, a_path, a_pathTop, a_cache, a_runMisses, a_runHits, a_table, a_before, a_behind⟩ := u
  obtain ⟨h_sets, h_places, h_made, h_depth, h_size, h_open, h_time, h_chosen, h_kept, h_worst, h_best, h_worstRuns, h_worstChoices, h_ends, h_bound, h_under, h_back, b_sorts, b_lows, b_highs, b_firsts, b_seconds, b_stack, b_pathsOf, b_lengthOf, b_choicesOf, b_todo, b_cache, b_path, b_tops, b_missed, b_struck, b_worstPath, b_mostMissed, b_mostStruck, b_leastMissed, b_held, b_contents, b_ages, b_phase, b_node, b_sum, b_saved, b_greatest, b_met, b_unsure⟩ := v
  have I2 := I
  obtain ⟨w, s, C, B, gp, sz, en, h1, h2, h3, h4, h5, h6, h7, ⟨n1, n2, n3, n4, n5, n6, n7, n8, n9, n10, n11⟩, ⟨z, z1, z2⟩, h9⟩ := I2
  have W := rw_W n3 z1 z2
  exact ⟨W.1.symm, I⟩
theorem i_vc_bound {k : Nat} {u : SX} {v : SY} (I : i_Rel k u v) (hk : k + 3 ≤ 1538) : wpX_bound (fun r => wpY_bound (fun r' => r' = r ∧ i_Rel (k + 3) u v) v) u := by
  obtain ⟨f_setBits, f_placeCount, f_made, f_height, f_pathCount, f_greatestLength, f_worstTime, f_bestTime, f_worstCount, f_programBound, f_endingCount, f_chosen, f_time, a_kind, a_first, a_second, a_low, a_high, a_parent, a_pathsOf, a_lengthOf, a_choicesOf, a_stack, a_worstPath, a_sureness, a_mostMisses, a_mostHits, a_leastMisses, a_endings, a_runsHolding, a_rounds, a_path, a_pathTop, a_cache, a_runMisses, a_runHits, a_table, a_before, a_behind⟩ := u
  obtain ⟨h_sets, h_places, h_made, h_depth, h_size, h_open, h_time, h_chosen, h_kept, h_worst, h_best, h_worstRuns, h_worstChoices, h_ends, h_bound, h_under, h_back, b_sorts, b_lows, b_highs, b_firsts, b_seconds, b_stack, b_pathsOf, b_lengthOf, b_choicesOf, b_todo, b_cache, b_path, b_tops, b_missed, b_struck, b_worstPath, b_mostMissed, b_mostStruck, b_leastMissed, b_held, b_contents, b_ages, b_phase, b_node, b_sum, b_saved, b_greatest, b_met, b_unsure⟩ := v
  have I2 := I
  obtain ⟨w, s, C, B, gp, sz, en, h1, h2, h3, h4, h5, h6, h7, ⟨n1, n2, n3, n4, n5, n6, n7, n8, n9, n10, n11⟩, ⟨z, z1, z2⟩, h9⟩ := I2
  have W := rw_W n3 z1 z2
  exact ⟨h6.symm, I⟩
theorem i_vc_ends {k : Nat} {u : SX} {v : SY} (I : i_Rel k u v) (hk : k + 3 ≤ 1538) : wpX_ends (fun r => wpY_ends (fun r' => r' = r ∧ i_Rel (k + 3) u v) v) u := by
  obtain ⟨f_setBits, f_placeCount, f_made, f_height, f_pathCount, f_greatestLength, f_worstTime, f_bestTime, f_worstCount, f_programBound, f_endingCount, f_chosen, f_time, a_kind, a_first, a_second, a_low, a_high, a_parent, a_pathsOf, a_lengthOf, a_choicesOf, a_stack, a_worstPath, a_sureness, a_mostMisses, a_mostHits, a_leastMisses, a_endings, a_runsHolding, a_rounds, a_path, a_pathTop, a_cache, a_runMisses, a_runHits, a_table, a_before, a_behind⟩ := u
  obtain ⟨h_sets, h_places, h_made, h_depth, h_size, h_open, h_time, h_chosen, h_kept, h_worst, h_best, h_worstRuns, h_worstChoices, h_ends, h_bound, h_under, h_back, b_sorts, b_lows, b_highs, b_firsts, b_seconds, b_stack, b_pathsOf, b_lengthOf, b_choicesOf, b_todo, b_cache, b_path, b_tops, b_missed, b_struck, b_worstPath, b_mostMissed, b_mostStruck, b_leastMissed, b_held, b_contents, b_ages, b_phase, b_node, b_sum, b_saved, b_greatest, b_met, b_unsure⟩ := v
  have I2 := I
  obtain ⟨w, s, C, B, gp, sz, en, h1, h2, h3, h4, h5, h6, h7, ⟨n1, n2, n3, n4, n5, n6, n7, n8, n9, n10, n11⟩, ⟨z, z1, z2⟩, h9⟩ := I2
  have W := rw_W n3 z1 z2
  exact ⟨by rw [n8, n9], I⟩
theorem i_vc_choice {k : Nat} {u : SX} {v : SY} (I : i_Rel k u v) (hk : k + 3 ≤ 1538) (v1 : Int32) : wpX_choice (fun r => wpY_choice (fun r' => r' = r ∧ i_Rel (k + 3) u v) v v1) u v1 := by
  obtain ⟨f_setBits, f_placeCount, f_made, f_height, f_pathCount, f_greatestLength, f_worstTime, f_bestTime, f_worstCount, f_programBound, f_endingCount, f_chosen, f_time, a_kind, a_first, a_second, a_low, a_high, a_parent, a_pathsOf, a_lengthOf, a_choicesOf, a_stack, a_worstPath, a_sureness, a_mostMisses, a_mostHits, a_leastMisses, a_endings, a_runsHolding, a_rounds, a_path, a_pathTop, a_cache, a_runMisses, a_runHits, a_table, a_before, a_behind⟩ := u
  obtain ⟨h_sets, h_places, h_made, h_depth, h_size, h_open, h_time, h_chosen, h_kept, h_worst, h_best, h_worstRuns, h_worstChoices, h_ends, h_bound, h_under, h_back, b_sorts, b_lows, b_highs, b_firsts, b_seconds, b_stack, b_pathsOf, b_lengthOf, b_choicesOf, b_todo, b_cache, b_path, b_tops, b_missed, b_struck, b_worstPath, b_mostMissed, b_mostStruck, b_leastMissed, b_held, b_contents, b_ages, b_phase, b_node, b_sum, b_saved, b_greatest, b_met, b_unsure⟩ := v
  have I2 := I
  obtain ⟨w, s, C, B, gp, sz, en, h1, h2, h3, h4, h5, h6, h7, ⟨n1, n2, n3, n4, n5, n6, n7, n8, n9, n10, n11⟩, ⟨z, z1, z2⟩, h9⟩ := I2
  obtain ⟨-, wc, w1, w2, w3⟩ := rw_W n3 z1 z2
  subst w2
  by_cases h : v1 < 0
  · exact br_t h (br_t h ⟨rfl, I⟩)
  · obtain ⟨j, hj, rfl⟩ := nI_of h
    have c : (nI j).toNatClampNeg = j := nI_clamp hj
    by_cases y : j < 20
    · obtain ⟨q1, q2⟩ := w3 j y
      refine br_f h (br_t (nI_lt (b := 20) y (by omega)) ⟨vp_in_nI y (by omega), ?_⟩)
      refine br_f h ?_
      rw [c]
      by_cases x : j < wc
      · exact br_t (nI_lt x (by omega)) ⟨vp_in_nI (by omega) (by omega), (q1 x).symm, I⟩
      · exact br_f (nI_nlt (by omega) (by omega)) ⟨(q2 x).symm, I⟩
    · refine br_f h (br_f (nI_nlt (b := 20) (by omega) (by omega)) (br_f h ?_))
      exact br_f (nI_nlt (by omega) (by omega)) ⟨rfl, I⟩
theorem i_vc_holds {k : Nat} {u : SX} {v : SY} (I : i_Rel k u v) (hk : k + 3 ≤ 1538) (v1 : Int32) : wpX_holds (fun r => wpY_holds (fun r' => r' = r ∧ i_Rel (k + 3) u v) v v1) u v1 := by
  obtain ⟨f_setBits, f_placeCount, f_made, f_height, f_pathCount, f_greatestLength, f_worstTime, f_bestTime, f_worstCount, f_programBound, f_endingCount, f_chosen, f_time, a_kind, a_first, a_second, a_low, a_high, a_parent, a_pathsOf, a_lengthOf, a_choicesOf, a_stack, a_worstPath, a_sureness, a_mostMisses, a_mostHits, a_leastMisses, a_endings, a_runsHolding, a_rounds, a_path, a_pathTop, a_cache, a_runMisses, a_runHits, a_table, a_before, a_behind⟩ := u
  obtain ⟨h_sets, h_places, h_made, h_depth, h_size, h_open, h_time, h_chosen, h_kept, h_worst, h_best, h_worstRuns, h_worstChoices, h_ends, h_bound, h_under, h_back, b_sorts, b_lows, b_highs, b_firsts, b_seconds, b_stack, b_pathsOf, b_lengthOf, b_choicesOf, b_todo, b_cache, b_path, b_tops, b_missed, b_struck, b_worstPath, b_mostMissed, b_mostStruck, b_leastMissed, b_held, b_contents, b_ages, b_phase, b_node, b_sum, b_saved, b_greatest, b_met, b_unsure⟩ := v
  have I2 := I
  obtain ⟨w, s, C, B, gp, sz, en, h1, h2, h3, h4, h5, h6, h7, ⟨n1, n2, n3, n4, n5, n6, n7, n8, n9, n10, n11⟩, ⟨z, z1, z2⟩, h9⟩ := I2
  by_cases h : v1 < 0
  · exact br_t h (br_t h ⟨rfl, I⟩)
  · obtain ⟨j, hj, rfl⟩ := nI_of h
    have c : (nI j).toNatClampNeg = j := nI_clamp hj
    by_cases y : j < 12
    · refine br_f h (br_t (nI_lt (b := 12) y (by omega)) ⟨vp_in_nI y (by omega), ?_⟩)
      refine br_f h (br_t (nI_le (b := 11) (by omega) (by omega)) ⟨vp_in_nI y (by omega), ?_⟩)
      rw [c]
      exact ⟨(n11 j y).symm, I⟩
    · exact br_f h (br_f (nI_nlt (b := 12) (by omega) (by omega)) (br_f h (br_f (nI_ge (a := 11) (by omega) (by omega)) ⟨rfl, I⟩)))
theorem i_vc_misses {k : Nat} {u : SX} {v : SY} (I : i_Rel k u v) (hk : k + 3 ≤ 1538) (v1 : Int32) : wpX_misses (fun r => wpY_misses (fun r' => r' = r ∧ i_Rel (k + 3) u v) v v1) u v1 := by
  obtain ⟨f_setBits, f_placeCount, f_made, f_height, f_pathCount, f_greatestLength, f_worstTime, f_bestTime, f_worstCount, f_programBound, f_endingCount, f_chosen, f_time, a_kind, a_first, a_second, a_low, a_high, a_parent, a_pathsOf, a_lengthOf, a_choicesOf, a_stack, a_worstPath, a_sureness, a_mostMisses, a_mostHits, a_leastMisses, a_endings, a_runsHolding, a_rounds, a_path, a_pathTop, a_cache, a_runMisses, a_runHits, a_table, a_before, a_behind⟩ := u
  obtain ⟨h_sets, h_places, h_made, h_depth, h_size, h_open, h_time, h_chosen, h_kept, h_worst, h_best, h_worstRuns, h_worstChoices, h_ends, h_bound, h_under, h_back, b_sorts, b_lows, b_highs, b_firsts, b_seconds, b_stack, b_pathsOf, b_lengthOf, b_choicesOf, b_todo, b_cache, b_path, b_tops, b_missed, b_struck, b_worstPath, b_mostMissed, b_mostStruck, b_leastMissed, b_held, b_contents, b_ages, b_phase, b_node, b_sum, b_saved, b_greatest, b_met, b_unsure⟩ := v
  have I2 := I
  obtain ⟨w, s, C, B, gp, sz, en, h1, h2, h3, h4, h5, h6, h7, ⟨n1, n2, n3, n4, n5, n6, n7, n8, n9, n10, n11⟩, ⟨z, z1, z2⟩, h9⟩ := I2
  have one : ¬ (1 : Int32) = 0 := by decide
  unfold wpX_misses wpY_misses
  by_cases h : v1 < 0
  · refine xi_no (Or.inl h) (br_t rfl ?_)
    exact yi_neg h (br_f one ⟨rfl, I⟩)
  · obtain ⟨j, hj, rfl⟩ := nI_of h
    by_cases hj18 : j < 18
    · have c : (nI j).toNatClampNeg = j := nI_clamp hj
      have i18 : vp_in (nI j) 18 := vp_in_nI hj18 (by omega)
      refine xi_yes hj18 (br_f one ⟨i18, ?_⟩)
      by_cases yx : j < sz ∧ gp 0 j = 0
      · obtain ⟨y, x⟩ := yx
        refine yi_yes h2 h3 y (by rw [(h7 j y).1, x]; rfl) (br_t rfl ⟨i18, ?_⟩)
        rw [c]
        exact ⟨((n5 j hj18).1 ⟨y, x⟩).symm, I⟩
      · refine yi_no hj h2 h3 (fun y e => yx ⟨y, ?_⟩) (br_f one ?_)
        · rw [(h7 j y).1] at e
          exact (nI_eq (b := 0) (by have := (h7 j y).2; omega) (by omega)).mp e
        · rw [c]
          exact ⟨((n5 j hj18).2 yx).symm, I⟩
    · refine xi_no (Or.inr (nI_le (a := 18) (by omega) hj)) (br_t rfl ?_)
      exact yi_no hj h2 h3 (fun y => by omega) (br_f one ⟨rfl, I⟩)
theorem i_vc_hits {k : Nat} {u : SX} {v : SY} (I : i_Rel k u v) (hk : k + 3 ≤ 1538) (v1 : Int32) : wpX_hits (fun r => wpY_hits (fun r' => r' = r ∧ i_Rel (k + 3) u v) v v1) u v1 := by
  obtain ⟨f_setBits, f_placeCount, f_made, f_height, f_pathCount, f_greatestLength, f_worstTime, f_bestTime, f_worstCount, f_programBound, f_endingCount, f_chosen, f_time, a_kind, a_first, a_second, a_low, a_high, a_parent, a_pathsOf, a_lengthOf, a_choicesOf, a_stack, a_worstPath, a_sureness, a_mostMisses, a_mostHits, a_leastMisses, a_endings, a_runsHolding, a_rounds, a_path, a_pathTop, a_cache, a_runMisses, a_runHits, a_table, a_before, a_behind⟩ := u
  obtain ⟨h_sets, h_places, h_made, h_depth, h_size, h_open, h_time, h_chosen, h_kept, h_worst, h_best, h_worstRuns, h_worstChoices, h_ends, h_bound, h_under, h_back, b_sorts, b_lows, b_highs, b_firsts, b_seconds, b_stack, b_pathsOf, b_lengthOf, b_choicesOf, b_todo, b_cache, b_path, b_tops, b_missed, b_struck, b_worstPath, b_mostMissed, b_mostStruck, b_leastMissed, b_held, b_contents, b_ages, b_phase, b_node, b_sum, b_saved, b_greatest, b_met, b_unsure⟩ := v
  have I2 := I
  obtain ⟨w, s, C, B, gp, sz, en, h1, h2, h3, h4, h5, h6, h7, ⟨n1, n2, n3, n4, n5, n6, n7, n8, n9, n10, n11⟩, ⟨z, z1, z2⟩, h9⟩ := I2
  have one : ¬ (1 : Int32) = 0 := by decide
  unfold wpX_hits wpY_hits
  by_cases h : v1 < 0
  · refine xi_no (Or.inl h) (br_t rfl ?_)
    exact yi_neg h (br_f one ⟨rfl, I⟩)
  · obtain ⟨j, hj, rfl⟩ := nI_of h
    by_cases hj18 : j < 18
    · have c : (nI j).toNatClampNeg = j := nI_clamp hj
      have i18 : vp_in (nI j) 18 := vp_in_nI hj18 (by omega)
      refine xi_yes hj18 (br_f one ⟨i18, ?_⟩)
      by_cases yx : j < sz ∧ gp 0 j = 0
      · obtain ⟨y, x⟩ := yx
        refine yi_yes h2 h3 y (by rw [(h7 j y).1, x]; rfl) (br_t rfl ⟨i18, ?_⟩)
        rw [c]
        exact ⟨((n6 j hj18).1 ⟨y, x⟩).symm, I⟩
      · refine yi_no hj h2 h3 (fun y e => yx ⟨y, ?_⟩) (br_f one ?_)
        · rw [(h7 j y).1] at e
          exact (nI_eq (b := 0) (by have := (h7 j y).2; omega) (by omega)).mp e
        · rw [c]
          exact ⟨((n6 j hj18).2 yx).symm, I⟩
    · refine xi_no (Or.inr (nI_le (a := 18) (by omega) hj)) (br_t rfl ?_)
      exact yi_no hj h2 h3 (fun y => by omega) (br_f one ⟨rfl, I⟩)
theorem i_vc_fewest {k : Nat} {u : SX} {v : SY} (I : i_Rel k u v) (hk : k + 3 ≤ 1538) (v1 : Int32) : wpX_fewest (fun r => wpY_fewest (fun r' => r' = r ∧ i_Rel (k + 3) u v) v v1) u v1 := by
  obtain ⟨f_setBits, f_placeCount, f_made, f_height, f_pathCount, f_greatestLength, f_worstTime, f_bestTime, f_worstCount, f_programBound, f_endingCount, f_chosen, f_time, a_kind, a_first, a_second, a_low, a_high, a_parent, a_pathsOf, a_lengthOf, a_choicesOf, a_stack, a_worstPath, a_sureness, a_mostMisses, a_mostHits, a_leastMisses, a_endings, a_runsHolding, a_rounds, a_path, a_pathTop, a_cache, a_runMisses, a_runHits, a_table, a_before, a_behind⟩ := u
  obtain ⟨h_sets, h_places, h_made, h_depth, h_size, h_open, h_time, h_chosen, h_kept, h_worst, h_best, h_worstRuns, h_worstChoices, h_ends, h_bound, h_under, h_back, b_sorts, b_lows, b_highs, b_firsts, b_seconds, b_stack, b_pathsOf, b_lengthOf, b_choicesOf, b_todo, b_cache, b_path, b_tops, b_missed, b_struck, b_worstPath, b_mostMissed, b_mostStruck, b_leastMissed, b_held, b_contents, b_ages, b_phase, b_node, b_sum, b_saved, b_greatest, b_met, b_unsure⟩ := v
  have I2 := I
  obtain ⟨w, s, C, B, gp, sz, en, h1, h2, h3, h4, h5, h6, h7, ⟨n1, n2, n3, n4, n5, n6, n7, n8, n9, n10, n11⟩, ⟨z, z1, z2⟩, h9⟩ := I2
  have one : ¬ (1 : Int32) = 0 := by decide
  unfold wpX_fewest wpY_fewest
  by_cases h : v1 < 0
  · refine xi_no (Or.inl h) (br_t rfl ?_)
    exact yi_neg h (br_f one ⟨rfl, I⟩)
  · obtain ⟨j, hj, rfl⟩ := nI_of h
    by_cases hj18 : j < 18
    · have c : (nI j).toNatClampNeg = j := nI_clamp hj
      have i18 : vp_in (nI j) 18 := vp_in_nI hj18 (by omega)
      refine xi_yes hj18 (br_f one ⟨i18, ?_⟩)
      by_cases yx : j < sz ∧ gp 0 j = 0
      · obtain ⟨y, x⟩ := yx
        refine yi_yes h2 h3 y (by rw [(h7 j y).1, x]; rfl) (br_t rfl ⟨i18, ?_⟩)
        rw [c]
        exact ⟨((n7 j hj18).1 ⟨y, x⟩).symm, I⟩
      · refine yi_no hj h2 h3 (fun y e => yx ⟨y, ?_⟩) (br_f one ?_)
        · rw [(h7 j y).1] at e
          exact (nI_eq (b := 0) (by have := (h7 j y).2; omega) (by omega)).mp e
        · rw [c]
          exact ⟨((n7 j hj18).2 yx).symm, I⟩
    · refine xi_no (Or.inr (nI_le (a := 18) (by omega) hj)) (br_t rfl ?_)
      exact yi_no hj h2 h3 (fun y => by omega) (br_f one ⟨rfl, I⟩)
theorem i_vc_sure {k : Nat} {u : SX} {v : SY} (I : i_Rel k u v) (hk : k + 3 ≤ 1538) (v1 : Int32) : wpX_sure (fun r => wpY_sure (fun r' => r' = r ∧ i_Rel (k + 3) u v) v v1) u v1 := by
  obtain ⟨f_setBits, f_placeCount, f_made, f_height, f_pathCount, f_greatestLength, f_worstTime, f_bestTime, f_worstCount, f_programBound, f_endingCount, f_chosen, f_time, a_kind, a_first, a_second, a_low, a_high, a_parent, a_pathsOf, a_lengthOf, a_choicesOf, a_stack, a_worstPath, a_sureness, a_mostMisses, a_mostHits, a_leastMisses, a_endings, a_runsHolding, a_rounds, a_path, a_pathTop, a_cache, a_runMisses, a_runHits, a_table, a_before, a_behind⟩ := u
  obtain ⟨h_sets, h_places, h_made, h_depth, h_size, h_open, h_time, h_chosen, h_kept, h_worst, h_best, h_worstRuns, h_worstChoices, h_ends, h_bound, h_under, h_back, b_sorts, b_lows, b_highs, b_firsts, b_seconds, b_stack, b_pathsOf, b_lengthOf, b_choicesOf, b_todo, b_cache, b_path, b_tops, b_missed, b_struck, b_worstPath, b_mostMissed, b_mostStruck, b_leastMissed, b_held, b_contents, b_ages, b_phase, b_node, b_sum, b_saved, b_greatest, b_met, b_unsure⟩ := v
  have I2 := I
  obtain ⟨w, s, C, B, gp, sz, en, h1, h2, h3, h4, h5, h6, h7, ⟨n1, n2, n3, n4, n5, n6, n7, n8, n9, n10, n11⟩, ⟨z, z1, z2⟩, h9⟩ := I2
  have one : ¬ (1 : Int32) = 0 := by decide
  unfold wpX_sure wpY_sure
  by_cases h : v1 < 0
  · refine xi_no (Or.inl h) (br_t rfl ?_)
    exact yi_neg h (br_f one ⟨rfl, I⟩)
  · obtain ⟨j, hj, rfl⟩ := nI_of h
    by_cases hj18 : j < 18
    · have c : (nI j).toNatClampNeg = j := nI_clamp hj
      have i18 : vp_in (nI j) 18 := vp_in_nI hj18 (by omega)
      refine xi_yes hj18 (br_f one ⟨i18, ?_⟩)
      by_cases yx : j < sz ∧ gp 0 j = 0
      · obtain ⟨y, x⟩ := yx
        refine yi_yes h2 h3 y (by rw [(h7 j y).1, x]; rfl) (br_t rfl ⟨i18, ?_⟩)
        have q := (h9 j hj18).1 ⟨y, x⟩
        rw [c]
        dsimp only at q
        refine br_c (fun m0 => ⟨by rw [q, if_pos m0], I⟩) (fun m0 => ⟨i18, br_c (fun u0 => ⟨by rw [q, if_neg m0, if_pos u0], I⟩) (fun u0 => ⟨by rw [q, if_neg m0, if_neg u0], I⟩)⟩)
      · refine yi_no hj h2 h3 (fun y e => yx ⟨y, ?_⟩) (br_f one ?_)
        · rw [(h7 j y).1] at e
          exact (nI_eq (b := 0) (by have := (h7 j y).2; omega) (by omega)).mp e
        · rw [c]
          exact ⟨((h9 j hj18).2 yx).symm, I⟩
    · refine xi_no (Or.inr (nI_le (a := 18) (by omega) hj)) (br_t rfl ?_)
      exact yi_no hj h2 h3 (fun y => by omega) (br_f one ⟨rfl, I⟩)
