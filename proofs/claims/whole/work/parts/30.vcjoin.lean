/-! join and loop -/
theorem sb_two (b : Nat) : nI (b + 2) - 2 = nI b := by
  rw [show (2 : Int32) = nI 2 from rfl, pk_sub (by omega)]
  rfl
theorem vj_join {k : Nat} {v1 : Int32} {f_setBits : Int32} {f_placeCount : Int32} {f_made : Int32} {f_height : Int32} {f_pathCount : Int32} {f_greatestLength : Int32} {f_worstTime : Int32} {f_bestTime : Int32} {f_worstCount : Int32} {f_programBound : Int32} {f_endingCount : Int32} {f_chosen : Int32} {f_time : Int32} {a_kind : Nat → Int32} {a_first : Nat → Int32} {a_second : Nat → Int32} {a_low : Nat → Int32} {a_high : Nat → Int32} {a_parent : Nat → Int32} {a_pathsOf : Nat → Int32} {a_lengthOf : Nat → Int32} {a_choicesOf : Nat → Int32} {a_stack : Nat → Int32} {a_worstPath : Nat → Int32} {a_sureness : Nat → Int32} {a_mostMisses : Nat → Int32} {a_mostHits : Nat → Int32} {a_leastMisses : Nat → Int32} {a_endings : Nat → Int64} {a_runsHolding : Nat → Int32} {a_rounds : Nat → Int32} {a_path : Nat → Int32} {a_pathTop : Nat → Int32} {a_cache : Nat → Int32} {a_runMisses : Nat → Int32} {a_runHits : Nat → Int32} {a_table : Nat → Int32} {a_before : Nat → Int32} {a_behind : Nat → Int32} {h_sets : Int32} {h_places : Int32} {h_made : Int32} {h_depth : Int32} {h_size : Int32} {h_open : Int32} {h_time : Int32} {h_chosen : Int32} {h_kept : Int32} {h_worst : Int32} {h_best : Int32} {h_worstRuns : Int32} {h_worstChoices : Int32} {h_ends : Int32} {h_bound : Int32} {h_under : Int32} {h_back : Int32} {b_sorts : Nat → Int32} {b_lows : Nat → Int32} {b_highs : Nat → Int32} {b_firsts : Nat → Int32} {b_seconds : Nat → Int32} {b_stack : Nat → Int32} {b_pathsOf : Nat → Int32} {b_lengthOf : Nat → Int32} {b_choicesOf : Nat → Int32} {b_todo : Nat → Int32} {b_cache : Nat → Int32} {b_path : Nat → Int32} {b_tops : Nat → Int32} {b_missed : Nat → Int32} {b_struck : Nat → Int32} {b_worstPath : Nat → Int32} {b_mostMissed : Nat → Int32} {b_mostStruck : Nat → Int32} {b_leastMissed : Nat → Int32} {b_held : Nat → Int32} {b_contents : Nat → Int64} {b_ages : Nat → Int32} {b_phase : Nat → Int32} {b_node : Nat → Int32} {b_sum : Nat → Int32} {b_saved : Nat → Int32} {b_greatest : Nat → Int32} {b_met : Nat → Int32} {b_unsure : Nat → Int32} (I : i_Rel k (f_setBits, f_placeCount, f_made, f_height, f_pathCount, f_greatestLength, f_worstTime, f_bestTime, f_worstCount, f_programBound, f_endingCount, f_chosen, f_time, a_kind, a_first, a_second, a_low, a_high, a_parent, a_pathsOf, a_lengthOf, a_choicesOf, a_stack, a_worstPath, a_sureness, a_mostMisses, a_mostHits, a_leastMisses, a_endings, a_runsHolding, a_rounds, a_path, a_pathTop, a_cache, a_runMisses, a_runHits, a_table, a_before, a_behind) (h_sets, h_places, h_made, h_depth, h_size, h_open, h_time, h_chosen, h_kept, h_worst, h_best, h_worstRuns, h_worstChoices, h_ends, h_bound, h_under, h_back, b_sorts, b_lows, b_highs, b_firsts, b_seconds, b_stack, b_pathsOf, b_lengthOf, b_choicesOf, b_todo, b_cache, b_path, b_tops, b_missed, b_struck, b_worstPath, b_mostMissed, b_mostStruck, b_leastMissed, b_held, b_contents, b_ages, b_phase, b_node, b_sum, b_saved, b_greatest, b_met, b_unsure)) (hv : v1 = 0 ∨ v1 = 1) : wX_join_11 (fun r u' => wpY_join (fun r' v' => r' = r ∧ i_Rel (k + 3) u' v') (h_sets, h_places, h_made, h_depth, h_size, h_open, h_time, h_chosen, h_kept, h_worst, h_best, h_worstRuns, h_worstChoices, h_ends, h_bound, h_under, h_back, b_sorts, b_lows, b_highs, b_firsts, b_seconds, b_stack, b_pathsOf, b_lengthOf, b_choicesOf, b_todo, b_cache, b_path, b_tops, b_missed, b_struck, b_worstPath, b_mostMissed, b_mostStruck, b_leastMissed, b_held, b_contents, b_ages, b_phase, b_node, b_sum, b_saved, b_greatest, b_met, b_unsure) v1) v1 f_setBits f_placeCount f_made f_height f_pathCount f_greatestLength f_worstTime f_bestTime f_worstCount f_programBound f_endingCount f_chosen f_time a_kind a_first a_second a_low a_high a_parent a_pathsOf a_lengthOf a_choicesOf a_stack a_worstPath a_sureness a_mostMisses a_mostHits a_leastMisses a_endings a_runsHolding a_rounds a_path a_pathTop a_cache a_runMisses a_runHits a_table a_before a_behind := by
  have I2 := I
  obtain ⟨w, s, C, ⟨g, sk, ma, he, T, S, e1, e2, e3, e4, St, XT, YT, MX, MY⟩, A⟩ := I2
  subst e1 e2 e3 e4
  have hma := S.2.1
  have hhe := S.1
  have h0 : ¬ v1 < 0 := by rcases hv with e | e <;> rw [e] <;> decide
  have h1 : v1 ≤ 1 := by rcases hv with e | e <;> rw [e] <;> decide
  by_cases z : ma < 18
  · have z2 : ¬ nI ma = 18 := by rw [show (18 : Int32) = nI 18 from rfl, nI_eq (by omega) (by omega)]; omega
    refine br_t (nI_lt (b := 18) z (by omega)) ?_
    by_cases y : 2 ≤ he
    · obtain ⟨b, rfl⟩ : ∃ b, he = b + 2 := ⟨he - 2, by omega⟩
      have y2 : (2 : Int32) ≤ nI (b + 2) := nI_le (a := 2) (by omega) (by omega)
      have eb1 : nI (b + 2) - 1 = nI (b + 1) := nI_pred (b + 1)
      have eb2 : nI (b + 2) - 2 = nI b := sb_two b
      have cb : (nI b).toNatClampNeg = b := nI_clamp (by omega)
      have cb1 : (nI (b + 1)).toNatClampNeg = b + 1 := nI_clamp (by omega)
      have ib : vp_in (nI b) 18 := vp_in_nI (by omega) (by omega)
      have ib1 : vp_in (nI (b + 1)) 18 := vp_in_nI (by omega) (by omega)
      obtain ⟨sx0, sy0⟩ := St b (by omega)
      obtain ⟨sx1, sy1⟩ := St (b + 1) (by omega)
      have l1 := S.2.2.1 b (by omega)
      have l2 := S.2.2.1 (b + 1) (by omega)
      have l3 := S.2.2.2.2.2.1 b (b + 1) (by omega) (by omega)
      have l4 : sk (b + 1) + 1 = ma := S.2.2.2.1 (by omega)
      have l5 : g 9 (sk (b + 1)) = sk b + 1 := (S.2.2.2.2.1 b (by omega)).symm
      obtain ⟨ma1, ma2, ma3⟩ := MX (sk b) l1
      obtain ⟨mb1, mb2, mb3⟩ := MX (sk (b + 1)) l2
      obtain ⟨na1, na2, na3⟩ := MY (sk b) l1
      obtain ⟨nb1, nb2, nb3⟩ := MY (sk (b + 1)) l2
      rw [Nat.zero_add] at ma1 ma2 ma3 mb1 mb2 mb3
      have pa := (T (sk b) l1).2.1
      have pb := (T (sk (b + 1)) l2).2.1
      refine br_t y2 ⟨by rw [eb1]; exact ib1, nm_r (e' := nI (sk (b + 1))) (by rw [eb1, cb1]; exact sx1) ⟨by rw [eb2]; exact ib, nm_r (e' := nI (sk b)) (by rw [eb2, cb]; exact sx0) (nm_r eb2 ?_)⟩⟩
      rcases hv with e | e
      · subst e
        refine br_t rfl ?_
        refine xp_seq z (by omega) (by omega) (by omega) ?_
        refine br_f h0 (br_t h1 (br_f z2 (br_t y2 (nm_r eb2 ⟨ib, ?_⟩))))
        rw [nI_1, cb, cb1, sy0, sy1]
        refine ⟨ib1, ?_⟩
        refine ym_make z (by omega) (fun Q HQ => ym_seq z l1 l2 us_s us_s us_s HQ) ?_
        refine ⟨rfl, w, s, C, bl_two (k := 2) (hh := 0) T S z St XT YT MX MY _ (Or.inl rfl) rfl us_s (fun n hn => us_n (by omega)) (pn_seq T l3 l4 l5) ?_ ?_ ?_ ?_ ?_ ?_, rl_A_low A (fun n hn => ⟨lk_w n hn, by rw [lk_w n hn, lk_w n hn], by rw [lk_w n hn, lk_w n hn]⟩)⟩
        · rw [ma1, mb1, pk_mul, xm_nat vl_lt, mn_mul pa pb]
        · rw [ma2, mb2, nI_add, xm_nat (by omega), vl_add]
        · rw [ma3, mb3, nI_add, xm_nat (by omega), vl_add]
        · rw [na1, nb1, pk_mul, xm_nat2 vl_lt, mn_mul pa pb]
        · rw [na2, nb2, nI_add, xm_nat2 (by omega), vl_add]
        · rw [na3, nb3, nI_add, xm_nat2 (by omega), vl_add]
      · subst e
        refine br_f (by decide) ?_
        refine xp_if z (by omega) (by omega) (by omega) ?_
        refine br_f h0 (br_t h1 (br_f z2 (br_t y2 (nm_r eb2 ⟨ib, ?_⟩))))
        rw [nI_1, cb, cb1, sy0, sy1]
        refine ⟨ib1, ?_⟩
        refine ym_make z (by omega) (fun Q HQ => ym_if z l1 l2 us_s us_s us_s HQ) ?_
        refine ⟨rfl, w, s, C, bl_two (k := 3) (hh := 1) T S z St XT YT MX MY _ (Or.inr rfl) rfl us_s (fun n hn => by rw [us_n (by omega), us_n (by omega)]) (pn_if T l3 l4 l5) ?_ ?_ ?_ ?_ ?_ ?_, rl_A_low A (fun n hn => ⟨lk_w n hn, by rw [lk_w n hn, lk_w n hn], by rw [lk_w n hn, lk_w n hn]⟩)⟩
        · rw [ma1, mb1, nI_add, xm_nat (by omega), vl_add]
        · rw [ma2, mb2, ix_nat (by omega) (by omega), xm_nat (by omega), vl_max]
        · rw [ma3, mb3, ix_nat (by omega) (by omega), show (1 : Int32) = nI 1 from rfl, nI_add, xm_nat (by omega), vl_max1]
        · rw [na1, nb1, nI_add, xm_nat2 (by omega), vl_add]
        · rw [na2, nb2, ix_nat (by omega) (by omega), vl_max2]
        · rw [na3, nb3, ix_nat (by omega) (by omega), show (1 : Int32) = nI 1 from rfl, nI_add, xm_nat2 (by omega), vl_max1]
    · have y2 : ¬ (2 : Int32) ≤ nI he := nI_ge (b := 2) (by omega) (by omega)
      exact br_f y2 (br_f h0 (br_t h1 (br_f z2 (br_f y2 ⟨rfl, I⟩))))
  · have : ma = 18 := by omega
    subst this
    exact br_f (nI_nlt (b := 18) (by omega) (by omega)) (br_f h0 (br_t h1 (br_t rfl ⟨rfl, I⟩)))
theorem i_vc_join {k : Nat} {u : SX} {v : SY} (I : i_Rel k u v) (hk : k + 3 ≤ 1538) (v1 : Int32) : wpX_join (fun r u' => wpY_join (fun r' v' => r' = r ∧ i_Rel (k + 3) u' v') v v1) u v1 := by
  obtain ⟨f_setBits, f_placeCount, f_made, f_height, f_pathCount, f_greatestLength, f_worstTime, f_bestTime, f_worstCount, f_programBound, f_endingCount, f_chosen, f_time, a_kind, a_first, a_second, a_low, a_high, a_parent, a_pathsOf, a_lengthOf, a_choicesOf, a_stack, a_worstPath, a_sureness, a_mostMisses, a_mostHits, a_leastMisses, a_endings, a_runsHolding, a_rounds, a_path, a_pathTop, a_cache, a_runMisses, a_runHits, a_table, a_before, a_behind⟩ := u
  obtain ⟨h_sets, h_places, h_made, h_depth, h_size, h_open, h_time, h_chosen, h_kept, h_worst, h_best, h_worstRuns, h_worstChoices, h_ends, h_bound, h_under, h_back, b_sorts, b_lows, b_highs, b_firsts, b_seconds, b_stack, b_pathsOf, b_lengthOf, b_choicesOf, b_todo, b_cache, b_path, b_tops, b_missed, b_struck, b_worstPath, b_mostMissed, b_mostStruck, b_leastMissed, b_held, b_contents, b_ages, b_phase, b_node, b_sum, b_saved, b_greatest, b_met, b_unsure⟩ := v
  by_cases h0 : v1 = 0
  · exact br_t h0 (vj_join I (Or.inl h0))
  · by_cases h1 : v1 = 1
    · exact br_f h0 (br_t h1 (vj_join I (Or.inr h1)))
    · refine br_f h0 (br_f h1 ?_)
      by_cases n : v1 < 0
      · exact br_t n ⟨rfl, I⟩
      · refine br_f n (br_f (fun z => ?_) ⟨rfl, I⟩)
        obtain ⟨j, hj, rfl⟩ := nI_of n
        have := (nI_leI (b := 1) hj (by omega)).mp z
        have : j = 0 ∨ j = 1 := by omega
        rcases this with e | e
        · subst e; exact h0 rfl
        · subst e; exact h1 rfl
theorem i_vc_loop {k : Nat} {u : SX} {v : SY} (I : i_Rel k u v) (hk : k + 3 ≤ 1538) (v1 : Int32) (v2 : Int32) : wpX_loop (fun r u' => wpY_loop (fun r' v' => r' = r ∧ i_Rel (k + 3) u' v') v v1 v2) u v1 v2 := by
  obtain ⟨f_setBits, f_placeCount, f_made, f_height, f_pathCount, f_greatestLength, f_worstTime, f_bestTime, f_worstCount, f_programBound, f_endingCount, f_chosen, f_time, a_kind, a_first, a_second, a_low, a_high, a_parent, a_pathsOf, a_lengthOf, a_choicesOf, a_stack, a_worstPath, a_sureness, a_mostMisses, a_mostHits, a_leastMisses, a_endings, a_runsHolding, a_rounds, a_path, a_pathTop, a_cache, a_runMisses, a_runHits, a_table, a_before, a_behind⟩ := u
  obtain ⟨h_sets, h_places, h_made, h_depth, h_size, h_open, h_time, h_chosen, h_kept, h_worst, h_best, h_worstRuns, h_worstChoices, h_ends, h_bound, h_under, h_back, b_sorts, b_lows, b_highs, b_firsts, b_seconds, b_stack, b_pathsOf, b_lengthOf, b_choicesOf, b_todo, b_cache, b_path, b_tops, b_missed, b_struck, b_worstPath, b_mostMissed, b_mostStruck, b_leastMissed, b_held, b_contents, b_ages, b_phase, b_node, b_sum, b_saved, b_greatest, b_met, b_unsure⟩ := v
  have I2 := I
  obtain ⟨w, s, C, ⟨g, sk, ma, he, T, S, e1, e2, e3, e4, St, XT, YT, MX, MY⟩, A⟩ := I2
  subst e1 e2 e3 e4
  have hma := S.2.1
  have hhe := S.1
  by_cases h : v1 < 0
  · exact br_t h (br_t h ⟨rfl, I⟩)
  by_cases h4 : 4 < v1
  · exact br_f h (br_t h4 (br_f h (br_t h4 ⟨rfl, I⟩)))
  by_cases h2 : v2 < v1
  · exact br_f h (br_f h4 (br_t h2 (br_f h (br_f h4 (br_t h2 ⟨rfl, I⟩)))))
  by_cases h5 : v2 ≤ 4
  · by_cases z : ma < 18
    · have z2 : ¬ nI ma = 18 := by rw [show (18 : Int32) = nI 18 from rfl, nI_eq (by omega) (by omega)]; omega
      have z1 : nI ma < 18 := nI_lt (b := 18) z (by omega)
      by_cases y : 1 ≤ he
      · obtain ⟨b, rfl⟩ : ∃ b, he = b + 1 := ⟨he - 1, by omega⟩
        have y2 : (1 : Int32) ≤ nI (b + 1) := nI_le (a := 1) (by omega) (by omega)
        have eb1 : nI (b + 1) - 1 = nI b := nI_pred b
        have cb : (nI b).toNatClampNeg = b := nI_clamp (by omega)
        have ib : vp_in (nI b) 18 := vp_in_nI (by omega) (by omega)
        obtain ⟨sx0, sy0⟩ := St b (by omega)
        have l1 := S.2.2.1 b (by omega)
        have l4 : sk b + 1 = ma := S.2.2.2.1 (by omega)
        obtain ⟨ma1, ma2, ma3⟩ := MX (sk b) l1
        obtain ⟨na1, na2, na3⟩ := MY (sk b) l1
        rw [Nat.zero_add] at ma1 ma2 ma3
        have pa := (T (sk b) l1).2.1
        have h22 : ¬ v2 < 0 := fun x => h2 (Int32.lt_of_lt_of_le x (Int32.not_lt.mp h))
        obtain ⟨lo, hlo, rfl⟩ := nI_of h
        obtain ⟨hi, hhi, rfl⟩ := nI_of h22
        have hh4 : hi ≤ 4 := (nI_leI (b := 4) hhi (by omega)).mp h5
        have hlh : lo ≤ hi := (nI_leI hlo hhi).mp (Int32.not_lt.mp h2)
        refine br_f h (br_f h4 (br_f h2 (br_t h5 (br_t z1 (br_t y2 ⟨by rw [eb1]; exact ib, nm_r (e' := nI (sk b)) (by rw [eb1, cb]; exact sx0) (nm_r eb1 ?_)⟩)))))
        refine xp_loop z (by omega) (by omega) hlh hh4 pa ma1 ?_
        refine br_f h (br_f h4 (br_f h2 (br_t h5 (br_f z2 (br_t y2 (nm_r eb1 ⟨ib, ib, ?_⟩))))))
        rw [cb, sy0]
        refine ym_make z (by omega) (fun Q HQ => ym_loop (P := g 5 (sk b)) z l1 hlh hh4 pa na1 us_s us_s us_s us_s HQ) ?_
        have L4 : min (g 6 (sk b)) 1000 ≤ 1000 := Nat.min_le_right _ _
        have C4 : min (g 7 (sk b)) 1000 ≤ 1000 := Nat.min_le_right _ _
        have m1 : hi * (1 + min (g 6 (sk b)) 1000) ≤ 4 * 1001 := Nat.mul_le_mul hh4 (by omega)
        have m2 : hi * min (g 7 (sk b)) 1000 ≤ 4 * 1000 := Nat.mul_le_mul hh4 C4
        have o1 : (if lo < hi then 1 else 0) ≤ 1 := by split <;> omega
        have t1 := mn_tt_le (g 5 (sk b)) lo (hi + 1)
        refine ⟨rfl, w, s, C, bl_loop T S z St XT YT MX MY (pn_loop T l4 hlh hh4) ?_ ?_ ?_ ?_ ?_ ?_, rl_A_low A (fun n hn => ⟨lk_w n hn, by rw [lk_w n hn, lk_w n hn], by rw [lk_w n hn, lk_w n hn]⟩)⟩
        · rw [xm_nat (by omega), mn_tt_eq]
        · rw [ma2, show (1 : Int32) = nI 1 from rfl, nI_add, pk_mul, xm_nat (by omega), mn_len hh4]
        · rw [ma3, pk_mul, nI_add, xm_nat (by omega), mn_cho hh4]
        · rfl
        · rw [na2, show (1 : Int32) = nI 1 from rfl, nI_add, pk_mul, xm_nat2 (by omega), mn_len hh4]
        · rw [na3, pk_mul, nI_add, xm_nat2 (by omega), Nat.add_comm, mn_cho hh4]
      · have y2 : ¬ (1 : Int32) ≤ nI he := nI_ge (b := 1) (by omega) (by omega)
        exact br_f h (br_f h4 (br_f h2 (br_t h5 (br_t z1 (br_f y2 (br_f h (br_f h4 (br_f h2 (br_t h5 (br_f z2 (br_f y2 ⟨rfl, I⟩)))))))))))
    · have : ma = 18 := by omega
      subst this
      exact br_f h (br_f h4 (br_f h2 (br_t h5 (br_f (nI_nlt (b := 18) (by omega) (by omega)) (br_f h (br_f h4 (br_f h2 (br_t h5 (br_t rfl ⟨rfl, I⟩)))))))))
  · exact br_f h (br_f h4 (br_f h2 (br_f h5 (br_f h (br_f h4 (br_f h2 (br_f h5 ⟨rfl, I⟩)))))))
