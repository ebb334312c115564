/-! what is noted after a run -/
def ix_x (a b : Int32) : Int32 := if a ≤ b then b else a
def ix_n (a b : Int32) : Int32 := if b ≤ a then b else a
theorem ix_m {Q : Int32 → Prop} {a b : Int32} (H : Q (ix_x a b)) : (a ≤ b → Q b) ∧ (¬ a ≤ b → Q a) := by
  unfold ix_x at H
  exact ⟨fun h => by rw [if_pos h] at H; exact H, fun h => by rw [if_neg h] at H; exact H⟩
theorem ix_l {Q : Int32 → Prop} {a b : Int32} (H : Q (ix_n a b)) : (b ≤ a → Q b) ∧ (¬ b ≤ a → Q a) := by
  unfold ix_n at H
  exact ⟨fun h => by rw [if_pos h] at H; exact H, fun h => by rw [if_neg h] at H; exact H⟩
theorem ix_G {Q : Int32 → Prop} {a b : Int32} (H : Q (ix_x a b)) : wpX_greater Q a b := ix_m H
theorem ix_L {Q : Int32 → Prop} {a b : Int32} (H : Q (ix_n a b)) : wpX_lesser Q a b := ix_l H
theorem iy_M {h_sets : Int32} {h_places : Int32} {h_made : Int32} {h_depth : Int32} {h_size : Int32} {h_open : Int32} {h_time : Int32} {h_chosen : Int32} {h_kept : Int32} {h_worst : Int32} {h_best : Int32} {h_worstRuns : Int32} {h_worstChoices : Int32} {h_ends : Int32} {h_bound : Int32} {h_under : Int32} {h_back : Int32} {b_sorts : Nat → Int32} {b_lows : Nat → Int32} {b_highs : Nat → Int32} {b_firsts : Nat → Int32} {b_seconds : Nat → Int32} {b_stack : Nat → Int32} {b_pathsOf : Nat → Int32} {b_lengthOf : Nat → Int32} {b_choicesOf : Nat → Int32} {b_todo : Nat → Int32} {b_cache : Nat → Int32} {b_path : Nat → Int32} {b_tops : Nat → Int32} {b_missed : Nat → Int32} {b_struck : Nat → Int32} {b_worstPath : Nat → Int32} {b_mostMissed : Nat → Int32} {b_mostStruck : Nat → Int32} {b_leastMissed : Nat → Int32} {b_held : Nat → Int32} {b_contents : Nat → Int64} {b_ages : Nat → Int32} {b_phase : Nat → Int32} {b_node : Nat → Int32} {b_sum : Nat → Int32} {b_saved : Nat → Int32} {b_greatest : Nat → Int32} {b_met : Nat → Int32} {b_unsure : Nat → Int32} {Q : Int32 → Prop} {a b : Int32} (H : Q (ix_x a b)) : wpY_most Q (h_sets, h_places, h_made, h_depth, h_size, h_open, h_time, h_chosen, h_kept, h_worst, h_best, h_worstRuns, h_worstChoices, h_ends, h_bound, h_under, h_back, b_sorts, b_lows, b_highs, b_firsts, b_seconds, b_stack, b_pathsOf, b_lengthOf, b_choicesOf, b_todo, b_cache, b_path, b_tops, b_missed, b_struck, b_worstPath, b_mostMissed, b_mostStruck, b_leastMissed, b_held, b_contents, b_ages, b_phase, b_node, b_sum, b_saved, b_greatest, b_met, b_unsure) a b := ix_m H
theorem iy_L {h_sets : Int32} {h_places : Int32} {h_made : Int32} {h_depth : Int32} {h_size : Int32} {h_open : Int32} {h_time : Int32} {h_chosen : Int32} {h_kept : Int32} {h_worst : Int32} {h_best : Int32} {h_worstRuns : Int32} {h_worstChoices : Int32} {h_ends : Int32} {h_bound : Int32} {h_under : Int32} {h_back : Int32} {b_sorts : Nat → Int32} {b_lows : Nat → Int32} {b_highs : Nat → Int32} {b_firsts : Nat → Int32} {b_seconds : Nat → Int32} {b_stack : Nat → Int32} {b_pathsOf : Nat → Int32} {b_lengthOf : Nat → Int32} {b_choicesOf : Nat → Int32} {b_todo : Nat → Int32} {b_cache : Nat → Int32} {b_path : Nat → Int32} {b_tops : Nat → Int32} {b_missed : Nat → Int32} {b_struck : Nat → Int32} {b_worstPath : Nat → Int32} {b_mostMissed : Nat → Int32} {b_mostStruck : Nat → Int32} {b_leastMissed : Nat → Int32} {b_held : Nat → Int32} {b_contents : Nat → Int64} {b_ages : Nat → Int32} {b_phase : Nat → Int32} {b_node : Nat → Int32} {b_sum : Nat → Int32} {b_saved : Nat → Int32} {b_greatest : Nat → Int32} {b_met : Nat → Int32} {b_unsure : Nat → Int32} {Q : Int32 → Prop} {a b : Int32} (H : Q (ix_n a b)) : wpY_least Q (h_sets, h_places, h_made, h_depth, h_size, h_open, h_time, h_chosen, h_kept, h_worst, h_best, h_worstRuns, h_worstChoices, h_ends, h_bound, h_under, h_back, b_sorts, b_lows, b_highs, b_firsts, b_seconds, b_stack, b_pathsOf, b_lengthOf, b_choicesOf, b_todo, b_cache, b_path, b_tops, b_missed, b_struck, b_worstPath, b_mostMissed, b_mostStruck, b_leastMissed, b_held, b_contents, b_ages, b_phase, b_node, b_sum, b_saved, b_greatest, b_met, b_unsure) a b := ix_l H
theorem ix_c (a b : Int32) : ix_n a b = ix_n b a := by
  unfold ix_n
  by_cases h : b ≤ a
  · rw [if_pos h]
    by_cases k : a ≤ b
    · rw [if_pos k]; exact Int32.le_antisymm h k
    · rw [if_neg k]
  · rw [if_neg h]
    by_cases k : a ≤ b
    · rw [if_pos k]
    · exfalso; exact k (Int32.le_of_lt (Int32.not_le.mp h))
theorem xn_41 {f_setBits : Int32} {f_placeCount : Int32} {f_made : Int32} {f_height : Int32} {f_pathCount : Int32} {f_greatestLength : Int32} {f_worstTime : Int32} {f_bestTime : Int32} {f_worstCount : Int32} {f_programBound : Int32} {f_endingCount : Int32} {f_chosen : Int32} {f_time : Int32} {a_kind : Nat → Int32} {a_first : Nat → Int32} {a_second : Nat → Int32} {a_low : Nat → Int32} {a_high : Nat → Int32} {a_parent : Nat → Int32} {a_pathsOf : Nat → Int32} {a_lengthOf : Nat → Int32} {a_choicesOf : Nat → Int32} {a_stack : Nat → Int32} {a_worstPath : Nat → Int32} {a_sureness : Nat → Int32} {a_mostMisses : Nat → Int32} {a_mostHits : Nat → Int32} {a_leastMisses : Nat → Int32} {a_endings : Nat → Int64} {a_runsHolding : Nat → Int32} {a_rounds : Nat → Int32} {a_path : Nat → Int32} {a_pathTop : Nat → Int32} {a_cache : Nat → Int32} {a_runMisses : Nat → Int32} {a_runHits : Nat → Int32} {a_table : Nat → Int32} {a_before : Nat → Int32} {a_behind : Nat → Int32} {post : SX → Prop} (H : wX_noteTime_65 post f_setBits f_placeCount f_made f_height f_pathCount f_greatestLength f_worstTime f_bestTime f_worstCount f_programBound f_endingCount f_chosen f_time a_kind a_first a_second a_low a_high a_parent a_pathsOf a_lengthOf a_choicesOf a_stack (sw_f a_path a_worstPath 20) a_sureness a_mostMisses a_mostHits a_leastMisses a_endings a_runsHolding a_rounds a_path a_pathTop a_cache a_runMisses a_runHits a_table a_before a_behind) :
    ∀ d i, i + d = 20 → wX_noteTime_41 post f_setBits f_placeCount f_made f_height f_pathCount f_greatestLength f_worstTime f_bestTime f_worstCount f_programBound f_endingCount f_chosen f_time (d + 1) (nI i) a_kind a_first a_second a_low a_high a_parent a_pathsOf a_lengthOf a_choicesOf a_stack (sw_f a_path a_worstPath i) a_sureness a_mostMisses a_mostHits a_leastMisses a_endings a_runsHolding a_rounds a_path a_pathTop a_cache a_runMisses a_runHits a_table a_before a_behind := by
  intro d
  induction d with
  | zero =>
    intro i hi
    have hi : i = 20 := by omega
    subst hi
    exact br_t (by decide) H
  | succ d ih =>
    intro i hi
    have c : (nI i).toNatClampNeg = i := nI_clamp (by omega)
    have ii : vp_in (nI i) 20 := vp_in_nI (by omega) (by omega)
    refine br_f (nI_ge (b := 20) (by omega) (by omega)) ⟨ii, ii, ?_⟩
    rw [c, sw_u rfl]
    exact nm_e (nm_r (nI_1 i) (ih (i + 1) (by omega)))
theorem xn_time {f_setBits : Int32} {f_placeCount : Int32} {f_made : Int32} {f_height : Int32} {f_pathCount : Int32} {f_greatestLength : Int32} {f_worstTime : Int32} {f_bestTime : Int32} {f_worstCount : Int32} {f_programBound : Int32} {f_endingCount : Int32} {f_chosen : Int32} {f_time : Int32} {a_kind : Nat → Int32} {a_first : Nat → Int32} {a_second : Nat → Int32} {a_low : Nat → Int32} {a_high : Nat → Int32} {a_parent : Nat → Int32} {a_pathsOf : Nat → Int32} {a_lengthOf : Nat → Int32} {a_choicesOf : Nat → Int32} {a_stack : Nat → Int32} {a_worstPath : Nat → Int32} {a_sureness : Nat → Int32} {a_mostMisses : Nat → Int32} {a_mostHits : Nat → Int32} {a_leastMisses : Nat → Int32} {a_endings : Nat → Int64} {a_runsHolding : Nat → Int32} {a_rounds : Nat → Int32} {a_path : Nat → Int32} {a_pathTop : Nat → Int32} {a_cache : Nat → Int32} {a_runMisses : Nat → Int32} {a_runHits : Nat → Int32} {a_table : Nat → Int32} {a_before : Nat → Int32} {a_behind : Nat → Int32} {post : SX → Prop}
    (H1 : ¬ f_time ≤ f_worstTime → post (f_setBits, f_placeCount, f_made, f_height, f_pathCount, f_greatestLength, f_time, ix_n f_time f_bestTime, 0 + 1, f_programBound, f_endingCount, f_chosen, f_time, a_kind, a_first, a_second, a_low, a_high, a_parent, a_pathsOf, a_lengthOf, a_choicesOf, a_stack, sw_f a_path a_worstPath 20, a_sureness, a_mostMisses, a_mostHits, a_leastMisses, a_endings, a_runsHolding, a_rounds, a_path, a_pathTop, a_cache, a_runMisses, a_runHits, a_table, a_before, a_behind))
    (H2 : f_time = f_worstTime → post (f_setBits, f_placeCount, f_made, f_height, f_pathCount, f_greatestLength, f_worstTime, ix_n f_time f_bestTime, f_worstCount + 1, f_programBound, f_endingCount, f_chosen, f_time, a_kind, a_first, a_second, a_low, a_high, a_parent, a_pathsOf, a_lengthOf, a_choicesOf, a_stack, a_worstPath, a_sureness, a_mostMisses, a_mostHits, a_leastMisses, a_endings, a_runsHolding, a_rounds, a_path, a_pathTop, a_cache, a_runMisses, a_runHits, a_table, a_before, a_behind))
    (H3 : f_time ≤ f_worstTime → ¬ f_time = f_worstTime → post (f_setBits, f_placeCount, f_made, f_height, f_pathCount, f_greatestLength, f_worstTime, ix_n f_time f_bestTime, f_worstCount, f_programBound, f_endingCount, f_chosen, f_time, a_kind, a_first, a_second, a_low, a_high, a_parent, a_pathsOf, a_lengthOf, a_choicesOf, a_stack, a_worstPath, a_sureness, a_mostMisses, a_mostHits, a_leastMisses, a_endings, a_runsHolding, a_rounds, a_path, a_pathTop, a_cache, a_runMisses, a_runHits, a_table, a_before, a_behind)) : wpX_noteTime post (f_setBits, f_placeCount, f_made, f_height, f_pathCount, f_greatestLength, f_worstTime, f_bestTime, f_worstCount, f_programBound, f_endingCount, f_chosen, f_time, a_kind, a_first, a_second, a_low, a_high, a_parent, a_pathsOf, a_lengthOf, a_choicesOf, a_stack, a_worstPath, a_sureness, a_mostMisses, a_mostHits, a_leastMisses, a_endings, a_runsHolding, a_rounds, a_path, a_pathTop, a_cache, a_runMisses, a_runHits, a_table, a_before, a_behind) := by
  refine ix_l (Q := fun r_1 => ((f_time ≤ f_worstTime → (wX_noteTime_65 post f_setBits f_placeCount f_made f_height f_pathCount f_greatestLength f_worstTime r_1 f_worstCount f_programBound f_endingCount f_chosen f_time a_kind a_first a_second a_low a_high a_parent a_pathsOf a_lengthOf a_choicesOf a_stack a_worstPath a_sureness a_mostMisses a_mostHits a_leastMisses a_endings a_runsHolding a_rounds a_path a_pathTop a_cache a_runMisses a_runHits a_table a_before a_behind)) ∧ (¬ f_time ≤ f_worstTime → (∃ n41 : Nat, wX_noteTime_41 post f_setBits f_placeCount f_made f_height f_pathCount f_greatestLength f_time r_1 0 f_programBound f_endingCount f_chosen f_time n41 0 a_kind a_first a_second a_low a_high a_parent a_pathsOf a_lengthOf a_choicesOf a_stack a_worstPath a_sureness a_mostMisses a_mostHits a_leastMisses a_endings a_runsHolding a_rounds a_path a_pathTop a_cache a_runMisses a_runHits a_table a_before a_behind)))) ?_
  refine br_c (fun h => br_c (fun e => nm_e (H2 e)) (fun e => H3 h e)) (fun h => ?_)
  have L := xn_41 (a_worstPath := a_worstPath) (a_path := a_path) (f_worstTime := f_time) (f_worstCount := 0) (br_t rfl (nm_e (H1 h))) 20 0 (by omega)
  rw [sw_0] at L
  exact ⟨21, L⟩
theorem yn_34 {h_sets : Int32} {h_places : Int32} {h_made : Int32} {h_depth : Int32} {h_size : Int32} {h_open : Int32} {h_time : Int32} {h_chosen : Int32} {h_kept : Int32} {h_worst : Int32} {h_best : Int32} {h_worstRuns : Int32} {h_worstChoices : Int32} {h_ends : Int32} {h_bound : Int32} {h_under : Int32} {h_back : Int32} {b_sorts : Nat → Int32} {b_lows : Nat → Int32} {b_highs : Nat → Int32} {b_firsts : Nat → Int32} {b_seconds : Nat → Int32} {b_stack : Nat → Int32} {b_pathsOf : Nat → Int32} {b_lengthOf : Nat → Int32} {b_choicesOf : Nat → Int32} {b_todo : Nat → Int32} {b_cache : Nat → Int32} {b_path : Nat → Int32} {b_tops : Nat → Int32} {b_missed : Nat → Int32} {b_struck : Nat → Int32} {b_worstPath : Nat → Int32} {b_mostMissed : Nat → Int32} {b_mostStruck : Nat → Int32} {b_leastMissed : Nat → Int32} {b_held : Nat → Int32} {b_contents : Nat → Int64} {b_ages : Nat → Int32} {b_phase : Nat → Int32} {b_node : Nat → Int32} {b_sum : Nat → Int32} {b_saved : Nat → Int32} {b_greatest : Nat → Int32} {b_met : Nat → Int32} {b_unsure : Nat → Int32} {post : SY → Prop} {t : Nat} (ht : t ≤ 20) (hc : h_chosen = nI t) (H : wY_note_60 post h_sets h_places h_made h_depth h_size h_open h_time h_chosen h_kept h_worst h_best h_worstRuns h_worstChoices h_ends h_bound h_under h_back b_sorts b_lows b_highs b_firsts b_seconds b_stack b_pathsOf b_lengthOf b_choicesOf b_todo b_cache b_path b_tops b_missed b_struck (sw_f b_path b_worstPath t) b_mostMissed b_mostStruck b_leastMissed b_held b_contents b_ages b_phase b_node b_sum b_saved b_greatest b_met b_unsure) :
    ∀ d i, i + d = t → wY_note_34 post h_sets h_places h_made h_depth h_size h_open h_time h_chosen h_kept h_worst h_best h_worstRuns h_worstChoices h_ends h_bound h_under h_back (d + 1) (nI i) b_sorts b_lows b_highs b_firsts b_seconds b_stack b_pathsOf b_lengthOf b_choicesOf b_todo b_cache b_path b_tops b_missed b_struck (sw_f b_path b_worstPath i) b_mostMissed b_mostStruck b_leastMissed b_held b_contents b_ages b_phase b_node b_sum b_saved b_greatest b_met b_unsure := by
  subst hc
  intro d
  induction d with
  | zero =>
    intro i hi
    have hi : i = t := by omega
    subst hi
    exact br_t (nI_le (Nat.le_refl _) (by omega)) H
  | succ d ih =>
    intro i hi
    have c : (nI i).toNatClampNeg = i := nI_clamp (by omega)
    have ii : vp_in (nI i) 24 := vp_in_nI (by omega) (by omega)
    refine br_f (nI_ge (by omega) (by omega)) ⟨ii, ii, ?_⟩
    rw [c, sw_u rfl]
    exact nm_e (nm_r (nI_1 i) (ih (i + 1) (by omega)))
theorem yn_note {h_sets : Int32} {h_places : Int32} {h_made : Int32} {h_depth : Int32} {h_size : Int32} {h_open : Int32} {h_time : Int32} {h_chosen : Int32} {h_kept : Int32} {h_worst : Int32} {h_best : Int32} {h_worstRuns : Int32} {h_worstChoices : Int32} {h_ends : Int32} {h_bound : Int32} {h_under : Int32} {h_back : Int32} {b_sorts : Nat → Int32} {b_lows : Nat → Int32} {b_highs : Nat → Int32} {b_firsts : Nat → Int32} {b_seconds : Nat → Int32} {b_stack : Nat → Int32} {b_pathsOf : Nat → Int32} {b_lengthOf : Nat → Int32} {b_choicesOf : Nat → Int32} {b_todo : Nat → Int32} {b_cache : Nat → Int32} {b_path : Nat → Int32} {b_tops : Nat → Int32} {b_missed : Nat → Int32} {b_struck : Nat → Int32} {b_worstPath : Nat → Int32} {b_mostMissed : Nat → Int32} {b_mostStruck : Nat → Int32} {b_leastMissed : Nat → Int32} {b_held : Nat → Int32} {b_contents : Nat → Int64} {b_ages : Nat → Int32} {b_phase : Nat → Int32} {b_node : Nat → Int32} {b_sum : Nat → Int32} {b_saved : Nat → Int32} {b_greatest : Nat → Int32} {b_met : Nat → Int32} {b_unsure : Nat → Int32} {post : SY → Prop} {t : Nat} (ht : t ≤ 20) (hc : h_chosen = nI t)
    (H1 : ¬ h_time ≤ h_worst → wY_note_81 post h_sets h_places h_made h_depth h_size h_open h_time h_chosen h_kept h_time h_best (0 + 1) h_chosen h_ends h_bound h_under h_back b_sorts b_lows b_highs b_firsts b_seconds b_stack b_pathsOf b_lengthOf b_choicesOf b_todo b_cache b_path b_tops b_missed b_struck (sw_f b_path b_worstPath t) b_mostMissed b_mostStruck b_leastMissed b_held b_contents b_ages b_phase b_node b_sum b_saved b_greatest b_met b_unsure)
    (H2 : h_time = h_worst → wY_note_81 post h_sets h_places h_made h_depth h_size h_open h_time h_chosen h_kept h_worst h_best (h_worstRuns + 1) h_worstChoices h_ends h_bound h_under h_back b_sorts b_lows b_highs b_firsts b_seconds b_stack b_pathsOf b_lengthOf b_choicesOf b_todo b_cache b_path b_tops b_missed b_struck b_worstPath b_mostMissed b_mostStruck b_leastMissed b_held b_contents b_ages b_phase b_node b_sum b_saved b_greatest b_met b_unsure)
    (H3 : h_time ≤ h_worst → ¬ h_time = h_worst → wY_note_81 post h_sets h_places h_made h_depth h_size h_open h_time h_chosen h_kept h_worst h_best h_worstRuns h_worstChoices h_ends h_bound h_under h_back b_sorts b_lows b_highs b_firsts b_seconds b_stack b_pathsOf b_lengthOf b_choicesOf b_todo b_cache b_path b_tops b_missed b_struck b_worstPath b_mostMissed b_mostStruck b_leastMissed b_held b_contents b_ages b_phase b_node b_sum b_saved b_greatest b_met b_unsure) : wpY_note post (h_sets, h_places, h_made, h_depth, h_size, h_open, h_time, h_chosen, h_kept, h_worst, h_best, h_worstRuns, h_worstChoices, h_ends, h_bound, h_under, h_back, b_sorts, b_lows, b_highs, b_firsts, b_seconds, b_stack, b_pathsOf, b_lengthOf, b_choicesOf, b_todo, b_cache, b_path, b_tops, b_missed, b_struck, b_worstPath, b_mostMissed, b_mostStruck, b_leastMissed, b_held, b_contents, b_ages, b_phase, b_node, b_sum, b_saved, b_greatest, b_met, b_unsure) := by
  refine br_c (fun h => br_c (fun e => nm_e (H2 e)) (fun e => H3 h e)) (fun h => ?_)
  have L := yn_34 (b_worstPath := b_worstPath) (b_path := b_path) (h_worst := h_time) (h_worstRuns := 0) (h_worstChoices := h_chosen) ht hc (br_t rfl (nm_e (H1 h))) t 0 (by omega)
  rw [sw_0] at L
  exact ⟨t + 1, L⟩
/-- the arrays of accesses -/
theorem xn_acc {f_setBits : Int32} {f_placeCount : Int32} {f_made : Int32} {f_height : Int32} {f_pathCount : Int32} {f_greatestLength : Int32} {f_worstTime : Int32} {f_bestTime : Int32} {f_worstCount : Int32} {f_programBound : Int32} {f_endingCount : Int32} {f_chosen : Int32} {f_time : Int32} {a_kind : Nat → Int32} {a_first : Nat → Int32} {a_second : Nat → Int32} {a_low : Nat → Int32} {a_high : Nat → Int32} {a_parent : Nat → Int32} {a_pathsOf : Nat → Int32} {a_lengthOf : Nat → Int32} {a_choicesOf : Nat → Int32} {a_stack : Nat → Int32} {a_worstPath : Nat → Int32} {a_sureness : Nat → Int32} {a_mostMisses : Nat → Int32} {a_mostHits : Nat → Int32} {a_leastMisses : Nat → Int32} {a_endings : Nat → Int64} {a_runsHolding : Nat → Int32} {a_rounds : Nat → Int32} {a_path : Nat → Int32} {a_pathTop : Nat → Int32} {a_cache : Nat → Int32} {a_runMisses : Nat → Int32} {a_runHits : Nat → Int32} {a_table : Nat → Int32} {a_before : Nat → Int32} {a_behind : Nat → Int32} {post : SX → Prop} {ma : Nat} (hma : ma ≤ 18) (hm : f_made = nI ma)
    (H : post (f_setBits, f_placeCount, f_made, f_height, f_pathCount, f_greatestLength, f_worstTime, f_bestTime, f_worstCount, f_programBound, f_endingCount, f_chosen, f_time, a_kind, a_first, a_second, a_low, a_high, a_parent, a_pathsOf, a_lengthOf, a_choicesOf, a_stack, a_worstPath, a_sureness, sw_f (fun j => if a_kind j = 0 then ix_x (a_mostMisses j) (a_runMisses j) else a_mostMisses j) a_mostMisses ma, sw_f (fun j => if a_kind j = 0 then ix_x (a_mostHits j) (a_runHits j) else a_mostHits j) a_mostHits ma, sw_f (fun j => if a_kind j = 0 then ix_n (a_leastMisses j) (a_runMisses j) else a_leastMisses j) a_leastMisses ma, a_endings, a_runsHolding, a_rounds, a_path, a_pathTop, a_cache, a_runMisses, a_runHits, a_table, a_before, a_behind)) :
    ∀ d i, i + d = ma → wX_noteAccesses_2 post f_setBits f_placeCount f_made f_height f_pathCount f_greatestLength f_worstTime f_bestTime f_worstCount f_programBound f_endingCount f_chosen f_time (d + 1) (nI i) a_kind a_first a_second a_low a_high a_parent a_pathsOf a_lengthOf a_choicesOf a_stack a_worstPath a_sureness (sw_f (fun j => if a_kind j = 0 then ix_x (a_mostMisses j) (a_runMisses j) else a_mostMisses j) a_mostMisses i) (sw_f (fun j => if a_kind j = 0 then ix_x (a_mostHits j) (a_runHits j) else a_mostHits j) a_mostHits i) (sw_f (fun j => if a_kind j = 0 then ix_n (a_leastMisses j) (a_runMisses j) else a_leastMisses j) a_leastMisses i) a_endings a_runsHolding a_rounds a_path a_pathTop a_cache a_runMisses a_runHits a_table a_before a_behind := by
  subst hm
  intro d
  induction d with
  | zero =>
    intro i hi
    have hi : i = ma := by omega
    subst hi
    exact br_t (nI_le (Nat.le_refl _) (by omega)) H
  | succ d ih =>
    intro i hi
    have c : (nI i).toNatClampNeg = i := nI_clamp (by omega)
    have ii : vp_in (nI i) 18 := vp_in_nI (by omega) (by omega)
    refine br_f (nI_ge (by omega) (by omega)) ⟨ii, ?_⟩
    rw [c, sw_at, sw_at, sw_at]
    refine br_c (fun z => ⟨ii, ii, ?_⟩) (fun z => nm_r (nI_1 i) ?_)
    · refine ix_G ⟨ii, ?_⟩
      rw [sw_u (by rw [if_pos z])]
      refine nm_e ⟨ii, ii, ix_G ⟨ii, ?_⟩⟩
      rw [sw_u (by rw [if_pos z])]
      refine nm_e ⟨ii, ii, ix_L ⟨ii, ?_⟩⟩
      rw [sw_u (by rw [if_pos z])]
      exact nm_e (nm_r (nI_1 i) (ih (i + 1) (by omega)))
    · rw [sw_k (i := i) (by rw [if_neg z]), sw_k (i := i) (by rw [if_neg z]), sw_k (i := i) (by rw [if_neg z])]
      exact ih (i + 1) (by omega)
theorem yn_acc {h_sets : Int32} {h_places : Int32} {h_made : Int32} {h_depth : Int32} {h_size : Int32} {h_open : Int32} {h_time : Int32} {h_chosen : Int32} {h_kept : Int32} {h_worst : Int32} {h_best : Int32} {h_worstRuns : Int32} {h_worstChoices : Int32} {h_ends : Int32} {h_bound : Int32} {h_under : Int32} {h_back : Int32} {b_sorts : Nat → Int32} {b_lows : Nat → Int32} {b_highs : Nat → Int32} {b_firsts : Nat → Int32} {b_seconds : Nat → Int32} {b_stack : Nat → Int32} {b_pathsOf : Nat → Int32} {b_lengthOf : Nat → Int32} {b_choicesOf : Nat → Int32} {b_todo : Nat → Int32} {b_cache : Nat → Int32} {b_path : Nat → Int32} {b_tops : Nat → Int32} {b_missed : Nat → Int32} {b_struck : Nat → Int32} {b_worstPath : Nat → Int32} {b_mostMissed : Nat → Int32} {b_mostStruck : Nat → Int32} {b_leastMissed : Nat → Int32} {b_held : Nat → Int32} {b_contents : Nat → Int64} {b_ages : Nat → Int32} {b_phase : Nat → Int32} {b_node : Nat → Int32} {b_sum : Nat → Int32} {b_saved : Nat → Int32} {b_greatest : Nat → Int32} {b_met : Nat → Int32} {b_unsure : Nat → Int32} {post : SY → Prop}
    (H : ∃ n181 : Nat, wY_note_181 post h_sets h_places h_made h_depth h_size h_open h_time h_chosen h_kept h_worst h_best h_worstRuns h_worstChoices h_ends h_bound h_under h_back n181 0 0 b_sorts b_lows b_highs b_firsts b_seconds b_stack b_pathsOf b_lengthOf b_choicesOf b_todo b_cache b_path b_tops b_missed b_struck b_worstPath (sw_f (fun j => ix_x (b_mostMissed j) (b_missed j)) b_mostMissed 18) (sw_f (fun j => ix_x (b_mostStruck j) (b_struck j)) b_mostStruck 18) (sw_f (fun j => ix_n (b_leastMissed j) (b_missed j)) b_leastMissed 18) b_held b_contents b_ages b_phase b_node b_sum b_saved b_greatest b_met b_unsure) :
    ∀ d i, i + d = 18 → wY_note_99 post h_sets h_places h_made h_depth h_size h_open h_time h_chosen h_kept h_worst h_best h_worstRuns h_worstChoices h_ends h_bound h_under h_back (d + 1) (nI i) b_sorts b_lows b_highs b_firsts b_seconds b_stack b_pathsOf b_lengthOf b_choicesOf b_todo b_cache b_path b_tops b_missed b_struck b_worstPath (sw_f (fun j => ix_x (b_mostMissed j) (b_missed j)) b_mostMissed i) (sw_f (fun j => ix_x (b_mostStruck j) (b_struck j)) b_mostStruck i) (sw_f (fun j => ix_n (b_leastMissed j) (b_missed j)) b_leastMissed i) b_held b_contents b_ages b_phase b_node b_sum b_saved b_greatest b_met b_unsure := by
  intro d
  induction d with
  | zero =>
    intro i hi
    have hi : i = 18 := by omega
    subst hi
    exact br_t (by decide) H
  | succ d ih =>
    intro i hi
    have c : (nI i).toNatClampNeg = i := nI_clamp (by omega)
    have ii : vp_in (nI i) 18 := vp_in_nI (by omega) (by omega)
    refine br_f (nI_ge (b := 18) (by omega) (by omega)) ⟨ii, ii, ?_⟩
    rw [c, sw_at, sw_at, sw_at]
    refine iy_M ⟨ii, ?_⟩
    rw [sw_u rfl]
    refine nm_e ⟨ii, ii, iy_M ⟨ii, ?_⟩⟩
    rw [sw_u rfl]
    refine nm_e ⟨ii, ii, iy_L ⟨ii, ?_⟩⟩
    rw [sw_u rfl]
    exact nm_e (nm_r (nI_1 i) (ih (i + 1) (by omega)))
/-- the codes of the caches -/
theorem cx_next {v a : Nat} {x : Int32} (hx : x = nI a) (ha : a < 8) (hv : v < 2 ^ 40) : (lN v <<< ((3 : Int32).toInt64 &&& 63)) ||| x.toInt64 = lN (v * 8 + a) := by
  rw [g_shl (k := 3) (p := 8) (by decide) (by omega) (by decide) (by omega), hx, nI_l (by omega), g_or (k := 3) (by decide) ha (by omega)]
theorem cy_next {v y : Nat} {x : Int32} (hx : x = -1 ∧ y = 0 ∨ ∃ m, m < 12 ∧ x = nI m ∧ y = m + 1) : (lN v * 13) + x.toInt64 + 1 = lN (v * 13 + y) := by
  have e : x.toInt64 + 1 = lN y := by
    rcases hx with ⟨h1, h2⟩ | ⟨m, h0, h1, h2⟩
    · subst h1 h2; decide
    · subst h1 h2; rw [nI_l (by omega), lN_1]
  rw [Int64.add_assoc, e, show (13 : Int64) = lN 13 from rfl, lN_mul, lN_add]
theorem cd_12 {f : Nat → Nat} {i : Nat} (hi : i ≤ 12) (h : ∀ j, j < 12 → f j < 8) : cd_c 8 f i < 2 ^ 40 := by
  have a := cd_lt (b := 8) (f := f) i (fun j hj => h j (by omega))
  have b : 8 ^ i ≤ 8 ^ 12 := Nat.pow_le_pow_right (by omega) hi
  have c : 8 ^ 12 < 2 ^ 40 := by decide
  omega
theorem xn_4 {f_setBits : Int32} {f_placeCount : Int32} {f_made : Int32} {f_height : Int32} {f_pathCount : Int32} {f_greatestLength : Int32} {f_worstTime : Int32} {f_bestTime : Int32} {f_worstCount : Int32} {f_programBound : Int32} {f_endingCount : Int32} {f_chosen : Int32} {f_time : Int32} {a_kind : Nat → Int32} {a_first : Nat → Int32} {a_second : Nat → Int32} {a_low : Nat → Int32} {a_high : Nat → Int32} {a_parent : Nat → Int32} {a_pathsOf : Nat → Int32} {a_lengthOf : Nat → Int32} {a_choicesOf : Nat → Int32} {a_stack : Nat → Int32} {a_worstPath : Nat → Int32} {a_sureness : Nat → Int32} {a_mostMisses : Nat → Int32} {a_mostHits : Nat → Int32} {a_leastMisses : Nat → Int32} {a_endings : Nat → Int64} {a_runsHolding : Nat → Int32} {a_rounds : Nat → Int32} {a_path : Nat → Int32} {a_pathTop : Nat → Int32} {a_cache : Nat → Int32} {a_runMisses : Nat → Int32} {a_runHits : Nat → Int32} {a_table : Nat → Int32} {a_before : Nat → Int32} {a_behind : Nat → Int32} {post : SX → Prop} {w : Nat} (hw : w ≤ 4) (hpc : f_placeCount = nI w) (hc : ∀ m, m < 12 → nt_x a_cache m < 8 ∧ a_cache m = nI (nt_x a_cache m))
    (H : ∃ n56 : Nat, wX_noteEnding_56 post (lN (cd_c 8 (nt_x a_cache) 12)) f_setBits f_placeCount f_made f_height f_pathCount f_greatestLength f_worstTime f_bestTime f_worstCount f_programBound f_endingCount f_chosen f_time a_kind a_first a_second a_low a_high a_parent a_pathsOf a_lengthOf a_choicesOf a_stack a_worstPath a_sureness a_mostMisses a_mostHits a_leastMisses a_endings (sw_f (fun j => if nt_x a_cache j < w then a_runsHolding j + 1 else a_runsHolding j) a_runsHolding 12) a_rounds a_path a_pathTop a_cache a_runMisses a_runHits a_table a_before a_behind n56 0 0) :
    ∀ d i, i + d = 12 → wX_noteEnding_4 post f_setBits f_placeCount f_made f_height f_pathCount f_greatestLength f_worstTime f_bestTime f_worstCount f_programBound f_endingCount f_chosen f_time (d + 1) (lN (cd_c 8 (nt_x a_cache) i)) (nI i) a_kind a_first a_second a_low a_high a_parent a_pathsOf a_lengthOf a_choicesOf a_stack a_worstPath a_sureness a_mostMisses a_mostHits a_leastMisses a_endings (sw_f (fun j => if nt_x a_cache j < w then a_runsHolding j + 1 else a_runsHolding j) a_runsHolding i) a_rounds a_path a_pathTop a_cache a_runMisses a_runHits a_table a_before a_behind := by
  subst hpc
  intro d
  induction d with
  | zero =>
    intro i hi
    have hi : i = 12 := by omega
    subst hi
    exact br_t (by decide) H
  | succ d ih =>
    intro i hi
    have c : (nI i).toNatClampNeg = i := nI_clamp (by omega)
    have ii : vp_in (nI i) 12 := vp_in_nI (by omega) (by omega)
    obtain ⟨c1, c2⟩ := hc i (by omega)
    have e : (lN (cd_c 8 (nt_x a_cache) i) <<< ((3 : Int32).toInt64 &&& 63)) ||| (a_cache i).toInt64 = lN (cd_c 8 (nt_x a_cache) (i + 1)) := cx_next c2 c1 (cd_12 (by omega) (fun j hj => (hc j hj).1))
    refine br_f (nI_ge (b := 12) (by omega) (by omega)) ⟨ii, ?_⟩
    rw [c, e]
    refine nm_e ⟨ii, ?_⟩
    rw [sw_at]
    by_cases z : nt_x a_cache i < w
    · refine br_f (by rw [c2]; exact nI_ge z (by omega)) ⟨ii, ii, ?_⟩
      rw [sw_u (by rw [if_pos z])]
      exact nm_e (nm_r (nI_1 i) (ih (i + 1) (by omega)))
    · refine br_t (by rw [c2]; exact nI_le (by omega) (by omega)) (nm_r (nI_1 i) ?_)
      rw [sw_k (i := i) (by rw [if_neg z])]
      exact ih (i + 1) (by omega)
theorem yn_181 {h_sets : Int32} {h_places : Int32} {h_made : Int32} {h_depth : Int32} {h_size : Int32} {h_open : Int32} {h_time : Int32} {h_chosen : Int32} {h_kept : Int32} {h_worst : Int32} {h_best : Int32} {h_worstRuns : Int32} {h_worstChoices : Int32} {h_ends : Int32} {h_bound : Int32} {h_under : Int32} {h_back : Int32} {b_sorts : Nat → Int32} {b_lows : Nat → Int32} {b_highs : Nat → Int32} {b_firsts : Nat → Int32} {b_seconds : Nat → Int32} {b_stack : Nat → Int32} {b_pathsOf : Nat → Int32} {b_lengthOf : Nat → Int32} {b_choicesOf : Nat → Int32} {b_todo : Nat → Int32} {b_cache : Nat → Int32} {b_path : Nat → Int32} {b_tops : Nat → Int32} {b_missed : Nat → Int32} {b_struck : Nat → Int32} {b_worstPath : Nat → Int32} {b_mostMissed : Nat → Int32} {b_mostStruck : Nat → Int32} {b_leastMissed : Nat → Int32} {b_held : Nat → Int32} {b_contents : Nat → Int64} {b_ages : Nat → Int32} {b_phase : Nat → Int32} {b_node : Nat → Int32} {b_sum : Nat → Int32} {b_saved : Nat → Int32} {b_greatest : Nat → Int32} {b_met : Nat → Int32} {b_unsure : Nat → Int32} {post : SY → Prop} {w s : Nat} {ag : Nat → Int32} (hw : w ≤ 4) (hs0 : 0 < s) (hs : s ≤ 4) (R : cr_R w s ag b_cache)
    (H : ∃ n238 : Nat, wY_note_238 post (lN (cd_c 13 (nt_y b_cache) 16)) h_sets h_places h_made h_depth h_size h_open h_time h_chosen h_kept h_worst h_best h_worstRuns h_worstChoices h_ends h_bound h_under h_back b_sorts b_lows b_highs b_firsts b_seconds b_stack b_pathsOf b_lengthOf b_choicesOf b_todo b_cache b_path b_tops b_missed b_struck b_worstPath b_mostMissed b_mostStruck b_leastMissed (hd_f w s ag b_held 16) b_contents b_ages b_phase b_node b_sum b_saved b_greatest b_met b_unsure n238 0 0) :
    ∀ d i, i + d = 16 → wY_note_181 post h_sets h_places h_made h_depth h_size h_open h_time h_chosen h_kept h_worst h_best h_worstRuns h_worstChoices h_ends h_bound h_under h_back (d + 1) (lN (cd_c 13 (nt_y b_cache) i)) (nI i) b_sorts b_lows b_highs b_firsts b_seconds b_stack b_pathsOf b_lengthOf b_choicesOf b_todo b_cache b_path b_tops b_missed b_struck b_worstPath b_mostMissed b_mostStruck b_leastMissed (hd_f w s ag b_held i) b_contents b_ages b_phase b_node b_sum b_saved b_greatest b_met b_unsure := by
  intro d
  induction d with
  | zero =>
    intro i hi
    have hi : i = 16 := by omega
    subst hi
    exact br_t (by decide) H
  | succ d ih =>
    intro i hi
    have c : (nI i).toNatClampNeg = i := nI_clamp (by omega)
    have ii : vp_in (nI i) 16 := vp_in_nI (by omega) (by omega)
    have cell : b_cache i = -1 ∨ ∃ m, m < 12 ∧ b_cache i = nI m := by
      rcases R.2 (i / 4) (i % 4) (by omega) (by omega) with z | ⟨z1, m, z2, z3, z4⟩
      · rw [show 4 * (i / 4) + i % 4 = i by omega] at z; exact Or.inl z
      · rw [show 4 * (i / 4) + i % 4 = i by omega] at z4; exact Or.inr ⟨m, z2, z4⟩
    have e : (lN (cd_c 13 (nt_y b_cache) i) * 13) + (b_cache i).toInt64 + 1 = lN (cd_c 13 (nt_y b_cache) (i + 1)) := by
      refine cy_next ?_
      rcases cell with z | ⟨m, m1, m2⟩
      · refine Or.inl ⟨z, ?_⟩
        unfold nt_y; rw [z, nt_m1, nI_clamp (by omega)]
      · refine Or.inr ⟨m, m1, m2, ?_⟩
        unfold nt_y; rw [m2, nI_1, nI_clamp (by omega)]
    refine br_f (nI_ge (b := 16) (by omega) (by omega)) ⟨ii, ?_⟩
    rw [c, e]
    refine nm_e ⟨ii, ?_⟩
    rcases cell with z | ⟨m, m1, m2⟩
    · refine br_t (by rw [z]; decide) (nm_r (nI_1 i) ?_)
      rw [hd_no hw hs0 hs R (by omega) z]
      exact ih (i + 1) (by omega)
    · have cm : (nI m).toNatClampNeg = m := nI_clamp (by omega)
      have im : vp_in (nI m) 12 := vp_in_nI m1 (by omega)
      rw [m2]
      refine br_f (nI_pos (by omega)) ⟨ii, im, im, ?_⟩
      rw [cm, hd_yes hw hs0 hs R (by omega) m1 m2]
      exact nm_e (nm_r (nI_1 i) (ih (i + 1) (by omega)))
/-- is the content known? -/
theorem xn_56a {f_setBits : Int32} {f_placeCount : Int32} {f_made : Int32} {f_height : Int32} {f_pathCount : Int32} {f_greatestLength : Int32} {f_worstTime : Int32} {f_bestTime : Int32} {f_worstCount : Int32} {f_programBound : Int32} {f_endingCount : Int32} {f_chosen : Int32} {f_time : Int32} {a_kind : Nat → Int32} {a_first : Nat → Int32} {a_second : Nat → Int32} {a_low : Nat → Int32} {a_high : Nat → Int32} {a_parent : Nat → Int32} {a_pathsOf : Nat → Int32} {a_lengthOf : Nat → Int32} {a_choicesOf : Nat → Int32} {a_stack : Nat → Int32} {a_worstPath : Nat → Int32} {a_sureness : Nat → Int32} {a_mostMisses : Nat → Int32} {a_mostHits : Nat → Int32} {a_leastMisses : Nat → Int32} {a_endings : Nat → Int64} {a_runsHolding : Nat → Int32} {a_rounds : Nat → Int32} {a_path : Nat → Int32} {a_pathTop : Nat → Int32} {a_cache : Nat → Int32} {a_runMisses : Nat → Int32} {a_runHits : Nat → Int32} {a_table : Nat → Int32} {a_before : Nat → Int32} {a_behind : Nat → Int32} {post : SX → Prop} {x1 : Int64} {en : Nat} (hen : en ≤ 150) (he : f_endingCount = nI en) (H : post (f_setBits, f_placeCount, f_made, f_height, f_pathCount, f_greatestLength, f_worstTime, f_bestTime, f_worstCount, f_programBound, f_endingCount, f_chosen, f_time, a_kind, a_first, a_second, a_low, a_high, a_parent, a_pathsOf, a_lengthOf, a_choicesOf, a_stack, a_worstPath, a_sureness, a_mostMisses, a_mostHits, a_leastMisses, a_endings, a_runsHolding, a_rounds, a_path, a_pathTop, a_cache, a_runMisses, a_runHits, a_table, a_before, a_behind)) : ∀ d i, i + d = en → wX_noteEnding_56 post x1 f_setBits f_placeCount f_made f_height f_pathCount f_greatestLength f_worstTime f_bestTime f_worstCount f_programBound f_endingCount f_chosen f_time a_kind a_first a_second a_low a_high a_parent a_pathsOf a_lengthOf a_choicesOf a_stack a_worstPath a_sureness a_mostMisses a_mostHits a_leastMisses a_endings a_runsHolding a_rounds a_path a_pathTop a_cache a_runMisses a_runHits a_table a_before a_behind (d + 1) 1 (nI i) := by
  subst he
  intro d
  induction d with
  | zero =>
    intro i hi
    have hi : i = en := by omega
    subst hi
    exact br_t (nI_le (Nat.le_refl _) (by omega)) (br_f (by decide) H)
  | succ d ih =>
    intro i hi
    exact br_f (nI_ge (by omega) (by omega)) (br_f (by decide) (nm_r (nI_1 i) (ih (i + 1) (by omega))))
theorem xn_56 {f_setBits : Int32} {f_placeCount : Int32} {f_made : Int32} {f_height : Int32} {f_pathCount : Int32} {f_greatestLength : Int32} {f_worstTime : Int32} {f_bestTime : Int32} {f_worstCount : Int32} {f_programBound : Int32} {f_endingCount : Int32} {f_chosen : Int32} {f_time : Int32} {a_kind : Nat → Int32} {a_first : Nat → Int32} {a_second : Nat → Int32} {a_low : Nat → Int32} {a_high : Nat → Int32} {a_parent : Nat → Int32} {a_pathsOf : Nat → Int32} {a_lengthOf : Nat → Int32} {a_choicesOf : Nat → Int32} {a_stack : Nat → Int32} {a_worstPath : Nat → Int32} {a_sureness : Nat → Int32} {a_mostMisses : Nat → Int32} {a_mostHits : Nat → Int32} {a_leastMisses : Nat → Int32} {a_endings : Nat → Int64} {a_runsHolding : Nat → Int32} {a_rounds : Nat → Int32} {a_path : Nat → Int32} {a_pathTop : Nat → Int32} {a_cache : Nat → Int32} {a_runMisses : Nat → Int32} {a_runHits : Nat → Int32} {a_table : Nat → Int32} {a_before : Nat → Int32} {a_behind : Nat → Int32} {post : SX → Prop} {x1 : Int64} {en : Nat} (hen : en < 150) (he : f_endingCount = nI en)
    (Hn : (∀ j, j < en → ¬ a_endings j = x1) → post (f_setBits, f_placeCount, f_made, f_height, f_pathCount, f_greatestLength, f_worstTime, f_bestTime, f_worstCount, f_programBound, nI (en + 1), f_chosen, f_time, a_kind, a_first, a_second, a_low, a_high, a_parent, a_pathsOf, a_lengthOf, a_choicesOf, a_stack, a_worstPath, a_sureness, a_mostMisses, a_mostHits, a_leastMisses, vp_updL a_endings en x1, a_runsHolding, a_rounds, a_path, a_pathTop, a_cache, a_runMisses, a_runHits, a_table, a_before, a_behind)) (Hy : (∃ j, j < en ∧ a_endings j = x1) → post (f_setBits, f_placeCount, f_made, f_height, f_pathCount, f_greatestLength, f_worstTime, f_bestTime, f_worstCount, f_programBound, f_endingCount, f_chosen, f_time, a_kind, a_first, a_second, a_low, a_high, a_parent, a_pathsOf, a_lengthOf, a_choicesOf, a_stack, a_worstPath, a_sureness, a_mostMisses, a_mostHits, a_leastMisses, a_endings, a_runsHolding, a_rounds, a_path, a_pathTop, a_cache, a_runMisses, a_runHits, a_table, a_before, a_behind)) : ∀ d i, i + d = en → (∀ j, j < i → ¬ a_endings j = x1) → wX_noteEnding_56 post x1 f_setBits f_placeCount f_made f_height f_pathCount f_greatestLength f_worstTime f_bestTime f_worstCount f_programBound f_endingCount f_chosen f_time a_kind a_first a_second a_low a_high a_parent a_pathsOf a_lengthOf a_choicesOf a_stack a_worstPath a_sureness a_mostMisses a_mostHits a_leastMisses a_endings a_runsHolding a_rounds a_path a_pathTop a_cache a_runMisses a_runHits a_table a_before a_behind (d + 1) 0 (nI i) := by
  subst he
  intro d
  induction d with
  | zero =>
    intro i hi hb
    have hi : i = en := by omega
    subst hi
    have c : (nI i).toNatClampNeg = i := nI_clamp (by omega)
    refine br_t (nI_le (Nat.le_refl _) (by omega)) (br_t rfl (br_f (nI_ge (b := 150) hen (by omega)) ⟨vp_in_nI hen (by omega), ?_⟩))
    rw [c]
    exact nm_e (nm_r (nI_1 i) (Hn hb))
  | succ d ih =>
    intro i hi hb
    have c : (nI i).toNatClampNeg = i := nI_clamp (by omega)
    refine br_f (nI_ge (by omega) (by omega)) (br_t rfl ⟨vp_in_nI (by omega) (by omega), ?_⟩)
    rw [c]
    refine br_c (fun z => nm_r (nI_1 i) ?_) (fun z => nm_r (nI_1 i) ?_)
    · exact xn_56a (by omega) rfl (Hy ⟨i, by omega, z⟩) d (i + 1) (by omega)
    · refine ih (i + 1) (by omega) fun j hj => ?_
      rcases Nat.lt_or_ge j i with y | y
      · exact hb j y
      · have : j = i := by omega
        subst this; exact z
theorem yn_238a {h_sets : Int32} {h_places : Int32} {h_made : Int32} {h_depth : Int32} {h_size : Int32} {h_open : Int32} {h_time : Int32} {h_chosen : Int32} {h_kept : Int32} {h_worst : Int32} {h_best : Int32} {h_worstRuns : Int32} {h_worstChoices : Int32} {h_ends : Int32} {h_bound : Int32} {h_under : Int32} {h_back : Int32} {b_sorts : Nat → Int32} {b_lows : Nat → Int32} {b_highs : Nat → Int32} {b_firsts : Nat → Int32} {b_seconds : Nat → Int32} {b_stack : Nat → Int32} {b_pathsOf : Nat → Int32} {b_lengthOf : Nat → Int32} {b_choicesOf : Nat → Int32} {b_todo : Nat → Int32} {b_cache : Nat → Int32} {b_path : Nat → Int32} {b_tops : Nat → Int32} {b_missed : Nat → Int32} {b_struck : Nat → Int32} {b_worstPath : Nat → Int32} {b_mostMissed : Nat → Int32} {b_mostStruck : Nat → Int32} {b_leastMissed : Nat → Int32} {b_held : Nat → Int32} {b_contents : Nat → Int64} {b_ages : Nat → Int32} {b_phase : Nat → Int32} {b_node : Nat → Int32} {b_sum : Nat → Int32} {b_saved : Nat → Int32} {b_greatest : Nat → Int32} {b_met : Nat → Int32} {b_unsure : Nat → Int32} {post : SY → Prop} {x1 : Int64} {en : Nat} (hen : en ≤ 150) (he : h_ends = nI en) (H : post (h_sets, h_places, h_made, h_depth, h_size, h_open, h_time, h_chosen, h_kept, h_worst, h_best, h_worstRuns, h_worstChoices, h_ends, h_bound, h_under, h_back, b_sorts, b_lows, b_highs, b_firsts, b_seconds, b_stack, b_pathsOf, b_lengthOf, b_choicesOf, b_todo, b_cache, b_path, b_tops, b_missed, b_struck, b_worstPath, b_mostMissed, b_mostStruck, b_leastMissed, b_held, b_contents, b_ages, b_phase, b_node, b_sum, b_saved, b_greatest, b_met, b_unsure)) : ∀ d i, i + d = en → wY_note_238 post x1 h_sets h_places h_made h_depth h_size h_open h_time h_chosen h_kept h_worst h_best h_worstRuns h_worstChoices h_ends h_bound h_under h_back b_sorts b_lows b_highs b_firsts b_seconds b_stack b_pathsOf b_lengthOf b_choicesOf b_todo b_cache b_path b_tops b_missed b_struck b_worstPath b_mostMissed b_mostStruck b_leastMissed b_held b_contents b_ages b_phase b_node b_sum b_saved b_greatest b_met b_unsure (d + 1) 1 (nI i) := by
  subst he
  intro d
  induction d with
  | zero =>
    intro i hi
    have hi : i = en := by omega
    subst hi
    exact br_t (nI_le (Nat.le_refl _) (by omega)) (br_f (by decide) H)
  | succ d ih =>
    intro i hi
    exact br_f (nI_ge (by omega) (by omega)) (br_f (by decide) (nm_r (nI_1 i) (ih (i + 1) (by omega))))
theorem yn_238 {h_sets : Int32} {h_places : Int32} {h_made : Int32} {h_depth : Int32} {h_size : Int32} {h_open : Int32} {h_time : Int32} {h_chosen : Int32} {h_kept : Int32} {h_worst : Int32} {h_best : Int32} {h_worstRuns : Int32} {h_worstChoices : Int32} {h_ends : Int32} {h_bound : Int32} {h_under : Int32} {h_back : Int32} {b_sorts : Nat → Int32} {b_lows : Nat → Int32} {b_highs : Nat → Int32} {b_firsts : Nat → Int32} {b_seconds : Nat → Int32} {b_stack : Nat → Int32} {b_pathsOf : Nat → Int32} {b_lengthOf : Nat → Int32} {b_choicesOf : Nat → Int32} {b_todo : Nat → Int32} {b_cache : Nat → Int32} {b_path : Nat → Int32} {b_tops : Nat → Int32} {b_missed : Nat → Int32} {b_struck : Nat → Int32} {b_worstPath : Nat → Int32} {b_mostMissed : Nat → Int32} {b_mostStruck : Nat → Int32} {b_leastMissed : Nat → Int32} {b_held : Nat → Int32} {b_contents : Nat → Int64} {b_ages : Nat → Int32} {b_phase : Nat → Int32} {b_node : Nat → Int32} {b_sum : Nat → Int32} {b_saved : Nat → Int32} {b_greatest : Nat → Int32} {b_met : Nat → Int32} {b_unsure : Nat → Int32} {post : SY → Prop} {x1 : Int64} {en : Nat} (hen : en < 150) (he : h_ends = nI en)
    (Hn : (∀ j, j < en → ¬ b_contents j = x1) → post (h_sets, h_places, h_made, h_depth, h_size, h_open, h_time, h_chosen, h_kept, h_worst, h_best, h_worstRuns, h_worstChoices, nI (en + 1), h_bound, h_under, h_back, b_sorts, b_lows, b_highs, b_firsts, b_seconds, b_stack, b_pathsOf, b_lengthOf, b_choicesOf, b_todo, b_cache, b_path, b_tops, b_missed, b_struck, b_worstPath, b_mostMissed, b_mostStruck, b_leastMissed, b_held, vp_updL b_contents en x1, b_ages, b_phase, b_node, b_sum, b_saved, b_greatest, b_met, b_unsure)) (Hy : (∃ j, j < en ∧ b_contents j = x1) → post (h_sets, h_places, h_made, h_depth, h_size, h_open, h_time, h_chosen, h_kept, h_worst, h_best, h_worstRuns, h_worstChoices, h_ends, h_bound, h_under, h_back, b_sorts, b_lows, b_highs, b_firsts, b_seconds, b_stack, b_pathsOf, b_lengthOf, b_choicesOf, b_todo, b_cache, b_path, b_tops, b_missed, b_struck, b_worstPath, b_mostMissed, b_mostStruck, b_leastMissed, b_held, b_contents, b_ages, b_phase, b_node, b_sum, b_saved, b_greatest, b_met, b_unsure)) : ∀ d i, i + d = en → (∀ j, j < i → ¬ b_contents j = x1) → wY_note_238 post x1 h_sets h_places h_made h_depth h_size h_open h_time h_chosen h_kept h_worst h_best h_worstRuns h_worstChoices h_ends h_bound h_under h_back b_sorts b_lows b_highs b_firsts b_seconds b_stack b_pathsOf b_lengthOf b_choicesOf b_todo b_cache b_path b_tops b_missed b_struck b_worstPath b_mostMissed b_mostStruck b_leastMissed b_held b_contents b_ages b_phase b_node b_sum b_saved b_greatest b_met b_unsure (d + 1) 0 (nI i) := by
  subst he
  intro d
  induction d with
  | zero =>
    intro i hi hb
    have hi : i = en := by omega
    subst hi
    have c : (nI i).toNatClampNeg = i := nI_clamp (by omega)
    refine br_t (nI_le (Nat.le_refl _) (by omega)) (br_t rfl ⟨vp_in_nI hen (by omega), ?_⟩)
    rw [c]
    exact nm_e (nm_r (nI_1 i) (Hn hb))
  | succ d ih =>
    intro i hi hb
    have c : (nI i).toNatClampNeg = i := nI_clamp (by omega)
    refine br_f (nI_ge (by omega) (by omega)) (br_t rfl ⟨vp_in_nI (by omega) (by omega), ?_⟩)
    rw [c]
    refine br_c (fun z => nm_r (nI_1 i) ?_) (fun z => nm_r (nI_1 i) ?_)
    · exact yn_238a (by omega) rfl (Hy ⟨i, by omega, z⟩) d (i + 1) (by omega)
    · refine ih (i + 1) (by omega) fun j hj => ?_
      rcases Nat.lt_or_ge j i with y | y
      · exact hb j y
      · have : j = i := by omega
        subst this; exact z
