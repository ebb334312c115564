/-! Y: making statements -/
theorem yr_18 (a : Nat) : 18 + nI a = nI (18 + a) := nI_add 18 a
theorem yr_c {a : Nat} (h : a < 18) : (18 + nI a).toNatClampNeg = 18 + a := by rw [yr_18]; exact nI_clamp (by omega)
theorem yr_i {a : Nat} (h : a < 18) : vp_in (18 + nI a) 36 := by rw [yr_18]; exact vp_in_nI (by omega) (by omega)
section
variable {post : SY → Prop} {m : Nat}
theorem ym_leaf {h_sets : Int32} {h_places : Int32} {h_made : Int32} {h_depth : Int32} {h_size : Int32} {h_open : Int32} {h_time : Int32} {h_chosen : Int32} {h_kept : Int32} {h_worst : Int32} {h_best : Int32} {h_worstRuns : Int32} {h_worstChoices : Int32} {h_ends : Int32} {h_bound : Int32} {h_under : Int32} {h_back : Int32} {b_sorts : Nat → Int32} {b_lows : Nat → Int32} {b_highs : Nat → Int32} {b_firsts : Nat → Int32} {b_seconds : Nat → Int32} {b_stack : Nat → Int32} {b_pathsOf : Nat → Int32} {b_lengthOf : Nat → Int32} {b_choicesOf : Nat → Int32} {b_todo : Nat → Int32} {b_cache : Nat → Int32} {b_path : Nat → Int32} {b_tops : Nat → Int32} {b_missed : Nat → Int32} {b_struck : Nat → Int32} {b_worstPath : Nat → Int32} {b_mostMissed : Nat → Int32} {b_mostStruck : Nat → Int32} {b_leastMissed : Nat → Int32} {b_held : Nat → Int32} {b_contents : Nat → Int64} {b_ages : Nat → Int32} {b_phase : Nat → Int32} {b_node : Nat → Int32} {b_sum : Nat → Int32} {b_saved : Nat → Int32} {b_greatest : Nat → Int32} {b_met : Nat → Int32} {b_unsure : Nat → Int32} (hm : m < 18) (h2 : ¬ b_sorts (18 + m) = 2) (h3 : ¬ b_sorts (18 + m) = 3) (h4 : ¬ b_sorts (18 + m) = 4) (H : post (h_sets, h_places, h_made, h_depth, h_size, h_open, h_time, h_chosen, h_kept, h_worst, h_best, h_worstRuns, h_worstChoices, h_ends, h_bound, h_under, h_back, b_sorts, b_lows, b_highs, b_firsts, b_seconds, b_stack, upd b_pathsOf (18 + m) (nI 1), upd b_lengthOf (18 + m) (nI 1), upd b_choicesOf (18 + m) (nI 0), b_todo, b_cache, b_path, b_tops, b_missed, b_struck, b_worstPath, b_mostMissed, b_mostStruck, b_leastMissed, b_held, b_contents, b_ages, b_phase, b_node, b_sum, b_saved, b_greatest, b_met, b_unsure)) : wpY_measure post (h_sets, h_places, h_made, h_depth, h_size, h_open, h_time, h_chosen, h_kept, h_worst, h_best, h_worstRuns, h_worstChoices, h_ends, h_bound, h_under, h_back, b_sorts, b_lows, b_highs, b_firsts, b_seconds, b_stack, b_pathsOf, b_lengthOf, b_choicesOf, b_todo, b_cache, b_path, b_tops, b_missed, b_struck, b_worstPath, b_mostMissed, b_mostStruck, b_leastMissed, b_held, b_contents, b_ages, b_phase, b_node, b_sum, b_saved, b_greatest, b_met, b_unsure) (nI (18 + m)) := by
  have c : (nI (18 + m)).toNatClampNeg = 18 + m := nI_clamp (by omega)
  have i : vp_in (nI (18 + m)) 36 := vp_in_nI (by omega) (by omega)
  refine And.intro i (nm_e ⟨i, nm_e ⟨i, um_u c ⟨i, um_u c ⟨i, um_u c ⟨i, ?_⟩⟩⟩⟩⟩)
  rw [c]
  exact br_f h2 ⟨i, br_f h3 ⟨i, br_f h4 H⟩⟩
theorem ym_seq {h_sets : Int32} {h_places : Int32} {h_made : Int32} {h_depth : Int32} {h_size : Int32} {h_open : Int32} {h_time : Int32} {h_chosen : Int32} {h_kept : Int32} {h_worst : Int32} {h_best : Int32} {h_worstRuns : Int32} {h_worstChoices : Int32} {h_ends : Int32} {h_bound : Int32} {h_under : Int32} {h_back : Int32} {b_sorts : Nat → Int32} {b_lows : Nat → Int32} {b_highs : Nat → Int32} {b_firsts : Nat → Int32} {b_seconds : Nat → Int32} {b_stack : Nat → Int32} {b_pathsOf : Nat → Int32} {b_lengthOf : Nat → Int32} {b_choicesOf : Nat → Int32} {b_todo : Nat → Int32} {b_cache : Nat → Int32} {b_path : Nat → Int32} {b_tops : Nat → Int32} {b_missed : Nat → Int32} {b_struck : Nat → Int32} {b_worstPath : Nat → Int32} {b_mostMissed : Nat → Int32} {b_mostStruck : Nat → Int32} {b_leastMissed : Nat → Int32} {b_held : Nat → Int32} {b_contents : Nat → Int64} {b_ages : Nat → Int32} {b_phase : Nat → Int32} {b_node : Nat → Int32} {b_sum : Nat → Int32} {b_saved : Nat → Int32} {b_greatest : Nat → Int32} {b_met : Nat → Int32} {b_unsure : Nat → Int32} {a b : Nat} (hm : m < 18) (ha : a < m) (hb : b < m) (h2 : b_sorts (18 + m) = 2) (ea : b_firsts (18 + m) = nI a) (eb : b_seconds (18 + m) = nI b)
    (H : post (h_sets, h_places, h_made, h_depth, h_size, h_open, h_time, h_chosen, h_kept, h_worst, h_best, h_worstRuns, h_worstChoices, h_ends, h_bound, h_under, h_back, b_sorts, b_lows, b_highs, b_firsts, b_seconds, b_stack, upd (upd b_pathsOf (18 + m) 1) (18 + m) (ix_n 1000 (b_pathsOf (18 + a) * b_pathsOf (18 + b))), upd (upd b_lengthOf (18 + m) 1) (18 + m) (ix_n 1000 (b_lengthOf (18 + a) + b_lengthOf (18 + b))), upd (upd b_choicesOf (18 + m) 0) (18 + m) (ix_n 1000 (b_choicesOf (18 + a) + b_choicesOf (18 + b))), b_todo, b_cache, b_path, b_tops, b_missed, b_struck, b_worstPath, b_mostMissed, b_mostStruck, b_leastMissed, b_held, b_contents, b_ages, b_phase, b_node, b_sum, b_saved, b_greatest, b_met, b_unsure)) : wpY_measure post (h_sets, h_places, h_made, h_depth, h_size, h_open, h_time, h_chosen, h_kept, h_worst, h_best, h_worstRuns, h_worstChoices, h_ends, h_bound, h_under, h_back, b_sorts, b_lows, b_highs, b_firsts, b_seconds, b_stack, b_pathsOf, b_lengthOf, b_choicesOf, b_todo, b_cache, b_path, b_tops, b_missed, b_struck, b_worstPath, b_mostMissed, b_mostStruck, b_leastMissed, b_held, b_contents, b_ages, b_phase, b_node, b_sum, b_saved, b_greatest, b_met, b_unsure) (nI (18 + m)) := by
  have c : (nI (18 + m)).toNatClampNeg = 18 + m := nI_clamp (by omega)
  have i : vp_in (nI (18 + m)) 36 := vp_in_nI (by omega) (by omega)
  have ca := yr_c (show a < 18 by omega)
  have cb := yr_c (show b < 18 by omega)
  have ia := yr_i (show a < 18 by omega)
  have ib := yr_i (show b < 18 by omega)
  refine And.intro i (nm_r (e' := 18 + nI a) (by rw [c, ea]) ⟨i, nm_r (e' := 18 + nI b) (by rw [c, eb]) ⟨i, um_u c ⟨i, um_u c ⟨i, um_u c ⟨i, ?_⟩⟩⟩⟩⟩)
  rw [c, ca, cb, us_n (by omega), us_n (by omega), us_n (by omega), us_n (by omega), us_n (by omega), us_n (by omega)]
  refine br_t h2 ⟨ia, ib, ?_⟩
  refine iy_L ⟨i, nm_e ⟨ia, ib, ?_⟩⟩
  refine iy_L ⟨i, nm_e ⟨ia, ib, ?_⟩⟩
  exact iy_L ⟨i, nm_e H⟩
theorem ym_if {h_sets : Int32} {h_places : Int32} {h_made : Int32} {h_depth : Int32} {h_size : Int32} {h_open : Int32} {h_time : Int32} {h_chosen : Int32} {h_kept : Int32} {h_worst : Int32} {h_best : Int32} {h_worstRuns : Int32} {h_worstChoices : Int32} {h_ends : Int32} {h_bound : Int32} {h_under : Int32} {h_back : Int32} {b_sorts : Nat → Int32} {b_lows : Nat → Int32} {b_highs : Nat → Int32} {b_firsts : Nat → Int32} {b_seconds : Nat → Int32} {b_stack : Nat → Int32} {b_pathsOf : Nat → Int32} {b_lengthOf : Nat → Int32} {b_choicesOf : Nat → Int32} {b_todo : Nat → Int32} {b_cache : Nat → Int32} {b_path : Nat → Int32} {b_tops : Nat → Int32} {b_missed : Nat → Int32} {b_struck : Nat → Int32} {b_worstPath : Nat → Int32} {b_mostMissed : Nat → Int32} {b_mostStruck : Nat → Int32} {b_leastMissed : Nat → Int32} {b_held : Nat → Int32} {b_contents : Nat → Int64} {b_ages : Nat → Int32} {b_phase : Nat → Int32} {b_node : Nat → Int32} {b_sum : Nat → Int32} {b_saved : Nat → Int32} {b_greatest : Nat → Int32} {b_met : Nat → Int32} {b_unsure : Nat → Int32} {a b : Nat} (hm : m < 18) (ha : a < m) (hb : b < m) (h2 : b_sorts (18 + m) = 3) (ea : b_firsts (18 + m) = nI a) (eb : b_seconds (18 + m) = nI b)
    (H : post (h_sets, h_places, h_made, h_depth, h_size, h_open, h_time, h_chosen, h_kept, h_worst, h_best, h_worstRuns, h_worstChoices, h_ends, h_bound, h_under, h_back, b_sorts, b_lows, b_highs, b_firsts, b_seconds, b_stack, upd (upd b_pathsOf (18 + m) 1) (18 + m) (ix_n 1000 (b_pathsOf (18 + a) + b_pathsOf (18 + b))), upd (upd b_lengthOf (18 + m) 1) (18 + m) (ix_x (b_lengthOf (18 + a)) (b_lengthOf (18 + b))), upd (upd b_choicesOf (18 + m) 0) (18 + m) (ix_n 1000 (1 + ix_x (b_choicesOf (18 + a)) (b_choicesOf (18 + b)))), b_todo, b_cache, b_path, b_tops, b_missed, b_struck, b_worstPath, b_mostMissed, b_mostStruck, b_leastMissed, b_held, b_contents, b_ages, b_phase, b_node, b_sum, b_saved, b_greatest, b_met, b_unsure)) : wpY_measure post (h_sets, h_places, h_made, h_depth, h_size, h_open, h_time, h_chosen, h_kept, h_worst, h_best, h_worstRuns, h_worstChoices, h_ends, h_bound, h_under, h_back, b_sorts, b_lows, b_highs, b_firsts, b_seconds, b_stack, b_pathsOf, b_lengthOf, b_choicesOf, b_todo, b_cache, b_path, b_tops, b_missed, b_struck, b_worstPath, b_mostMissed, b_mostStruck, b_leastMissed, b_held, b_contents, b_ages, b_phase, b_node, b_sum, b_saved, b_greatest, b_met, b_unsure) (nI (18 + m)) := by
  have c : (nI (18 + m)).toNatClampNeg = 18 + m := nI_clamp (by omega)
  have i : vp_in (nI (18 + m)) 36 := vp_in_nI (by omega) (by omega)
  have ca := yr_c (show a < 18 by omega)
  have cb := yr_c (show b < 18 by omega)
  have ia := yr_i (show a < 18 by omega)
  have ib := yr_i (show b < 18 by omega)
  refine And.intro i (nm_r (e' := 18 + nI a) (by rw [c, ea]) ⟨i, nm_r (e' := 18 + nI b) (by rw [c, eb]) ⟨i, um_u c ⟨i, um_u c ⟨i, um_u c ⟨i, ?_⟩⟩⟩⟩⟩)
  rw [c, ca, cb, us_n (by omega), us_n (by omega), us_n (by omega), us_n (by omega), us_n (by omega), us_n (by omega)]
  refine br_f (by rw [h2]; decide) ⟨i, br_t h2 ⟨ia, ib, ?_⟩⟩
  refine iy_L ⟨i, nm_e ⟨ia, ib, ?_⟩⟩
  refine iy_M ⟨i, nm_e ⟨ia, ib, ?_⟩⟩
  refine iy_M ?_
  exact iy_L ⟨i, nm_e H⟩
theorem ym_8 {h_sets : Int32} {h_places : Int32} {h_made : Int32} {h_depth : Int32} {h_size : Int32} {h_open : Int32} {h_time : Int32} {h_chosen : Int32} {h_kept : Int32} {h_worst : Int32} {h_best : Int32} {h_worstRuns : Int32} {h_worstChoices : Int32} {h_ends : Int32} {h_bound : Int32} {h_under : Int32} {h_back : Int32} {b_sorts : Nat → Int32} {b_lows : Nat → Int32} {b_highs : Nat → Int32} {b_firsts : Nat → Int32} {b_seconds : Nat → Int32} {b_stack : Nat → Int32} {b_pathsOf : Nat → Int32} {b_lengthOf : Nat → Int32} {b_choicesOf : Nat → Int32} {b_todo : Nat → Int32} {b_cache : Nat → Int32} {b_path : Nat → Int32} {b_tops : Nat → Int32} {b_missed : Nat → Int32} {b_struck : Nat → Int32} {b_worstPath : Nat → Int32} {b_mostMissed : Nat → Int32} {b_mostStruck : Nat → Int32} {b_leastMissed : Nat → Int32} {b_held : Nat → Int32} {b_contents : Nat → Int64} {b_ages : Nat → Int32} {b_phase : Nat → Int32} {b_node : Nat → Int32} {b_sum : Nat → Int32} {b_saved : Nat → Int32} {b_greatest : Nat → Int32} {b_met : Nat → Int32} {b_unsure : Nat → Int32} {a lo hi P : Nat} (hm : m < 18) (ha : a < m) (hlo : lo ≤ hi) (hhi : hi ≤ 4) (hP1 : 1 ≤ P) (hP : b_pathsOf (18 + a) = nI (min P 1000)) (el : b_lows (18 + m) = nI lo) (eh : b_highs (18 + m) = nI hi)
    (H : post (h_sets, h_places, h_made, h_depth, h_size, h_open, h_time, h_chosen, h_kept, h_worst, h_best, h_worstRuns, h_worstChoices, h_ends, h_bound, h_under, h_back, b_sorts, b_lows, b_highs, b_firsts, b_seconds, b_stack, upd b_pathsOf (18 + m) (nI (min (ps_s P lo (hi + 1)) 1000)), upd b_lengthOf (18 + m) (ix_n 1000 (nI hi * (1 + b_lengthOf (18 + a)))), upd b_choicesOf (18 + m) (ix_n 1000 (nI hi * b_choicesOf (18 + a) + nI (if lo < hi then 1 else 0))), b_todo, b_cache, b_path, b_tops, b_missed, b_struck, b_worstPath, b_mostMissed, b_mostStruck, b_leastMissed, b_held, b_contents, b_ages, b_phase, b_node, b_sum, b_saved, b_greatest, b_met, b_unsure)) :
    ∀ d i, i + d = hi + 1 → wY_measureLoop_8 post (nI (18 + m)) (18 + nI a) h_sets h_places h_made h_depth h_size h_open h_time h_chosen h_kept h_worst h_best h_worstRuns h_worstChoices h_ends h_bound h_under h_back b_sorts b_lows b_highs b_firsts b_seconds b_stack b_pathsOf b_lengthOf b_choicesOf b_todo b_cache b_path b_tops b_missed b_struck b_worstPath b_mostMissed b_mostStruck b_leastMissed b_held b_contents b_ages b_phase b_node b_sum b_saved b_greatest b_met b_unsure (d + 1) (nI (min (P ^ i) 1000)) (nI (min (ps_s P lo i) 1000)) (nI i) := by
  have c : (nI (18 + m)).toNatClampNeg = 18 + m := nI_clamp (by omega)
  have im : vp_in (nI (18 + m)) 36 := vp_in_nI (by omega) (by omega)
  have ca := yr_c (show a < 18 by omega)
  have ia := yr_i (show a < 18 by omega)
  intro d
  induction d with
  | zero =>
    intro i hi'
    have hi' : i = hi + 1 := by omega
    subst hi'
    refine And.intro im ?_
    rw [c, eh, ca, el]
    refine br_t (nI_lt (by omega) (by omega)) ⟨im, nm_e ⟨im, ia, ?_⟩⟩
    refine iy_L ⟨im, nm_e ⟨im, ia, im, im, ?_⟩⟩
    by_cases z : lo < hi
    · rw [if_pos z] at H
      refine br_f (nI_ge z (by omega)) ?_
      refine iy_L ⟨im, ?_⟩
      rw [c]
      exact nm_e H
    · rw [if_neg z] at H
      refine br_t (nI_le (by omega) (by omega)) ?_
      refine iy_L ⟨im, ?_⟩
      rw [c]
      exact nm_e H
  | succ d ih =>
    intro i hi'
    have hb : min (P ^ i) 1000 * min P 1000 < 2 ^ 31 := by
      have : min (P ^ i) 1000 * min P 1000 ≤ 1000 * 1000 := Nat.mul_le_mul (Nat.min_le_right _ _) (Nat.min_le_right _ _)
      omega
    have step : ∀ x4 : Int32, x4 = nI (min (ps_s P lo (i + 1)) 1000) → wY_measureLoop_43 post (wY_measureLoop_8 post (nI (18 + m)) (18 + nI a) h_sets h_places h_made h_depth h_size h_open h_time h_chosen h_kept h_worst h_best h_worstRuns h_worstChoices h_ends h_bound h_under h_back b_sorts b_lows b_highs b_firsts b_seconds b_stack b_pathsOf b_lengthOf b_choicesOf b_todo b_cache b_path b_tops b_missed b_struck b_worstPath b_mostMissed b_mostStruck b_leastMissed b_held b_contents b_ages b_phase b_node b_sum b_saved b_greatest b_met b_unsure (d + 1)) (nI (18 + m)) (18 + nI a) (nI (min (P ^ i) 1000)) x4 (nI i) h_sets h_places h_made h_depth h_size h_open h_time h_chosen h_kept h_worst h_best h_worstRuns h_worstChoices h_ends h_bound h_under h_back b_sorts b_lows b_highs b_firsts b_seconds b_stack b_pathsOf b_lengthOf b_choicesOf b_todo b_cache b_path b_tops b_missed b_struck b_worstPath b_mostMissed b_mostStruck b_leastMissed b_held b_contents b_ages b_phase b_node b_sum b_saved b_greatest b_met b_unsure := by
      intro x4 e
      subst e
      refine And.intro ia ?_
      rw [ca, hP, pk_mul]
      refine iy_L ?_
      rw [xm_nat2 hb, mn_pow hP1]
      exact nm_r (nI_1 i) (ih (i + 1) (by omega))
    refine And.intro im ?_
    rw [c, eh, el]
    refine br_f (nI_nlt (by omega) (by omega)) ⟨im, ?_⟩
    by_cases z : i < lo
    · refine br_t (nI_lt z (by omega)) (step _ ?_)
      rw [ps_skip (by omega)]
    · refine br_f (nI_nlt (by omega) (by omega)) ?_
      rw [nI_add]
      refine iy_L (step _ ?_)
      rw [xm_nat2 (by omega), mn_ps, ps_next (by omega)]
theorem ym_loop {h_sets : Int32} {h_places : Int32} {h_made : Int32} {h_depth : Int32} {h_size : Int32} {h_open : Int32} {h_time : Int32} {h_chosen : Int32} {h_kept : Int32} {h_worst : Int32} {h_best : Int32} {h_worstRuns : Int32} {h_worstChoices : Int32} {h_ends : Int32} {h_bound : Int32} {h_under : Int32} {h_back : Int32} {b_sorts : Nat → Int32} {b_lows : Nat → Int32} {b_highs : Nat → Int32} {b_firsts : Nat → Int32} {b_seconds : Nat → Int32} {b_stack : Nat → Int32} {b_pathsOf : Nat → Int32} {b_lengthOf : Nat → Int32} {b_choicesOf : Nat → Int32} {b_todo : Nat → Int32} {b_cache : Nat → Int32} {b_path : Nat → Int32} {b_tops : Nat → Int32} {b_missed : Nat → Int32} {b_struck : Nat → Int32} {b_worstPath : Nat → Int32} {b_mostMissed : Nat → Int32} {b_mostStruck : Nat → Int32} {b_leastMissed : Nat → Int32} {b_held : Nat → Int32} {b_contents : Nat → Int64} {b_ages : Nat → Int32} {b_phase : Nat → Int32} {b_node : Nat → Int32} {b_sum : Nat → Int32} {b_saved : Nat → Int32} {b_greatest : Nat → Int32} {b_met : Nat → Int32} {b_unsure : Nat → Int32} {a lo hi P : Nat} (hm : m < 18) (ha : a < m) (hlo : lo ≤ hi) (hhi : hi ≤ 4) (hP1 : 1 ≤ P) (hP : b_pathsOf (18 + a) = nI (min P 1000)) (el : b_lows (18 + m) = nI lo) (eh : b_highs (18 + m) = nI hi) (h2 : b_sorts (18 + m) = 4) (ea : b_firsts (18 + m) = nI a)
    (H : post (h_sets, h_places, h_made, h_depth, h_size, h_open, h_time, h_chosen, h_kept, h_worst, h_best, h_worstRuns, h_worstChoices, h_ends, h_bound, h_under, h_back, b_sorts, b_lows, b_highs, b_firsts, b_seconds, b_stack, upd (upd b_pathsOf (18 + m) 1) (18 + m) (nI (min (ps_s P lo (hi + 1)) 1000)), upd (upd b_lengthOf (18 + m) 1) (18 + m) (ix_n 1000 (nI hi * (1 + b_lengthOf (18 + a)))), upd (upd b_choicesOf (18 + m) 0) (18 + m) (ix_n 1000 (nI hi * b_choicesOf (18 + a) + nI (if lo < hi then 1 else 0))), b_todo, b_cache, b_path, b_tops, b_missed, b_struck, b_worstPath, b_mostMissed, b_mostStruck, b_leastMissed, b_held, b_contents, b_ages, b_phase, b_node, b_sum, b_saved, b_greatest, b_met, b_unsure)) : wpY_measure post (h_sets, h_places, h_made, h_depth, h_size, h_open, h_time, h_chosen, h_kept, h_worst, h_best, h_worstRuns, h_worstChoices, h_ends, h_bound, h_under, h_back, b_sorts, b_lows, b_highs, b_firsts, b_seconds, b_stack, b_pathsOf, b_lengthOf, b_choicesOf, b_todo, b_cache, b_path, b_tops, b_missed, b_struck, b_worstPath, b_mostMissed, b_mostStruck, b_leastMissed, b_held, b_contents, b_ages, b_phase, b_node, b_sum, b_saved, b_greatest, b_met, b_unsure) (nI (18 + m)) := by
  have c : (nI (18 + m)).toNatClampNeg = 18 + m := nI_clamp (by omega)
  have i : vp_in (nI (18 + m)) 36 := vp_in_nI (by omega) (by omega)
  refine And.intro i (nm_r (e' := 18 + nI a) (by rw [c, ea]) ⟨i, nm_e ⟨i, um_u c ⟨i, um_u c ⟨i, um_u c ⟨i, ?_⟩⟩⟩⟩⟩)
  rw [c]
  refine br_f (by rw [h2]; decide) ⟨i, br_f (by rw [h2]; decide) ⟨i, br_t h2 ?_⟩⟩
  refine Exists.intro (hi + 2) ?_
  refine ym_8 (b_pathsOf := upd b_pathsOf (18 + m) 1) (b_lengthOf := upd b_lengthOf (18 + m) 1) (b_choicesOf := upd b_choicesOf (18 + m) 0) hm ha hlo hhi hP1 (by rw [us_n (by omega)]; exact hP) el eh ?_ (hi + 1) 0 (by omega)
  rw [us_n (show 18 + a ≠ 18 + m by omega), us_n (show 18 + a ≠ 18 + m by omega)]
  exact H
end
theorem ym_make {h_sets : Int32} {h_places : Int32} {h_size : Int32} {h_open : Int32} {h_time : Int32} {h_chosen : Int32} {h_kept : Int32} {h_worst : Int32} {h_best : Int32} {h_worstRuns : Int32} {h_worstChoices : Int32} {h_ends : Int32} {h_bound : Int32} {h_under : Int32} {h_back : Int32} {b_sorts : Nat → Int32} {b_lows : Nat → Int32} {b_highs : Nat → Int32} {b_firsts : Nat → Int32} {b_seconds : Nat → Int32} {b_stack : Nat → Int32} {b_pathsOf : Nat → Int32} {b_lengthOf : Nat → Int32} {b_choicesOf : Nat → Int32} {b_todo : Nat → Int32} {b_cache : Nat → Int32} {b_path : Nat → Int32} {b_tops : Nat → Int32} {b_missed : Nat → Int32} {b_struck : Nat → Int32} {b_worstPath : Nat → Int32} {b_mostMissed : Nat → Int32} {b_mostStruck : Nat → Int32} {b_leastMissed : Nat → Int32} {b_held : Nat → Int32} {b_contents : Nat → Int64} {b_ages : Nat → Int32} {b_phase : Nat → Int32} {b_node : Nat → Int32} {b_sum : Nat → Int32} {b_saved : Nat → Int32} {b_greatest : Nat → Int32} {b_met : Nat → Int32} {b_unsure : Nat → Int32} {post : Int32 → SY → Prop} {m h : Nat} {p0 p1 p2 p3 p4 : Int32} {pa le co : Nat → Int32} (hm : m < 18) (hh : h < 18)
    (M : ∀ (Q : SY → Prop), Q (h_sets, h_places, nI m, nI h, h_size, h_open, h_time, h_chosen, h_kept, h_worst, h_best, h_worstRuns, h_worstChoices, h_ends, h_bound, h_under, h_back, upd b_sorts (18 + m) p0, upd b_lows (18 + m) p1, upd b_highs (18 + m) p2, upd b_firsts (18 + m) p3, upd b_seconds (18 + m) p4, b_stack, pa, le, co, b_todo, b_cache, b_path, b_tops, b_missed, b_struck, b_worstPath, b_mostMissed, b_mostStruck, b_leastMissed, b_held, b_contents, b_ages, b_phase, b_node, b_sum, b_saved, b_greatest, b_met, b_unsure) → wpY_measure Q (h_sets, h_places, nI m, nI h, h_size, h_open, h_time, h_chosen, h_kept, h_worst, h_best, h_worstRuns, h_worstChoices, h_ends, h_bound, h_under, h_back, upd b_sorts (18 + m) p0, upd b_lows (18 + m) p1, upd b_highs (18 + m) p2, upd b_firsts (18 + m) p3, upd b_seconds (18 + m) p4, b_stack, b_pathsOf, b_lengthOf, b_choicesOf, b_todo, b_cache, b_path, b_tops, b_missed, b_struck, b_worstPath, b_mostMissed, b_mostStruck, b_leastMissed, b_held, b_contents, b_ages, b_phase, b_node, b_sum, b_saved, b_greatest, b_met, b_unsure) (nI (18 + m)))
    (H : post (nI m) (h_sets, h_places, nI (m + 1), nI (h + 1), h_size, h_open, h_time, h_chosen, h_kept, h_worst, h_best, h_worstRuns, h_worstChoices, h_ends, h_bound, h_under, h_back, upd b_sorts (18 + m) p0, upd b_lows (18 + m) p1, upd b_highs (18 + m) p2, upd b_firsts (18 + m) p3, upd b_seconds (18 + m) p4, upd b_stack h (nI m), pa, le, co, b_todo, b_cache, b_path, b_tops, b_missed, b_struck, b_worstPath, b_mostMissed, b_mostStruck, b_leastMissed, b_held, b_contents, b_ages, b_phase, b_node, b_sum, b_saved, b_greatest, b_met, b_unsure)) : wpY_make post (h_sets, h_places, nI m, nI h, h_size, h_open, h_time, h_chosen, h_kept, h_worst, h_best, h_worstRuns, h_worstChoices, h_ends, h_bound, h_under, h_back, b_sorts, b_lows, b_highs, b_firsts, b_seconds, b_stack, b_pathsOf, b_lengthOf, b_choicesOf, b_todo, b_cache, b_path, b_tops, b_missed, b_struck, b_worstPath, b_mostMissed, b_mostStruck, b_leastMissed, b_held, b_contents, b_ages, b_phase, b_node, b_sum, b_saved, b_greatest, b_met, b_unsure) p0 p1 p2 p3 p4 := by
  have c : (nI (18 + m)).toNatClampNeg = 18 + m := nI_clamp (by omega)
  have i : vp_in (nI (18 + m)) 36 := vp_in_nI (by omega) (by omega)
  have ch : (nI h).toNatClampNeg = h := nI_clamp (by omega)
  refine nm_r (yr_18 m) ⟨i, um_u c ⟨i, um_u c ⟨i, um_u c ⟨i, um_u c ⟨i, um_u c ?_⟩⟩⟩⟩⟩
  refine M _ ⟨vp_in_nI hh (by omega), um_u ch (nm_r (nI_1 h) (nm_r (nI_1 m) ?_))⟩
  rw [nI_pred]
  exact H
