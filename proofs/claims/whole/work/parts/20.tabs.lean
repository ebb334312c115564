/-! the walk over the sure tables, X and Y step by step -/
theorem ix_nat {a b : Nat} (ha : a < 2 ^ 31) (hb : b < 2 ^ 31) : ix_x (nI a) (nI b) = nI (max a b) := by
  unfold ix_x
  by_cases h : a ≤ b
  · rw [if_pos (nI_le h hb), Nat.max_eq_right h]
  · rw [if_neg (nI_ge (by omega) ha), Nat.max_eq_left (by omega)]
theorem ix_0 {a : Nat} (ha : a < 2 ^ 31) : ix_x (nI a) 0 = nI a := by
  rw [show (0 : Int32) = nI 0 from rfl, ix_nat ha (by omega), Nat.max_eq_left (Nat.zero_le _)]
theorem ix_s {a b : Nat} (ha : a < 2 ^ 31) (hb : b < 2 ^ 31) : ix_x (nI a) (nI b) = ix_x (nI b) (nI a) := by
  rw [ix_nat ha hb, ix_nat hb ha, Nat.max_comm]
def ag_R (w : Nat) (tb ag : Nat → Int32) : Prop := ∀ m, m < 12 → tb m = ag m ∧ ∃ a, a ≤ w ∧ ag m = nI a
def sr_R (g : Nat → Nat → Nat) (sz : Nat) (su me un : Nat → Int32) : Prop := ∀ n, n < 18 → (n < sz ∧ g 0 n = 0 → (me n = 0 ∧ un n = 0 ∧ su n = 2) ∨ (me n = 1 ∧ un n = 0 ∧ su n = 1) ∨ (me n = 1 ∧ un n = 1 ∧ su n = 0)) ∧ (¬ (n < sz ∧ g 0 n = 0) → su n = -4)
theorem sr_hit {g : Nat → Nat → Nat} {sz n : Nat} {su me un : Nat → Int32} (h : sr_R g sz su me un) (hn : n < sz) (h18 : n < 18) (k : g 0 n = 0) : sr_R g sz (if su n = 2 then upd su n 1 else su) (upd me n 1) un := by
  intro x hx
  obtain ⟨h1, h2⟩ := h x hx
  by_cases e : x = n
  · subst e
    rw [us_s]
    refine ⟨fun _ => ?_, fun z => absurd ⟨hn, k⟩ z⟩
    rcases h1 ⟨hn, k⟩ with ⟨a, b, c⟩ | ⟨a, b, c⟩ | ⟨a, b, c⟩
    · rw [if_pos c, us_s]; exact Or.inr (Or.inl ⟨rfl, b, rfl⟩)
    · rw [if_neg (by rw [c]; decide)]; exact Or.inr (Or.inl ⟨rfl, b, c⟩)
    · rw [if_neg (by rw [c]; decide)]; exact Or.inr (Or.inr ⟨rfl, b, c⟩)
  · rw [us_n e]
    have es : (if su n = 2 then upd su n 1 else su) x = su x := by
      by_cases z : su n = 2
      · rw [if_pos z, us_n e]
      · rw [if_neg z]
    rw [es]
    exact ⟨h1, h2⟩
theorem sr_miss {g : Nat → Nat → Nat} {sz n : Nat} {su me un : Nat → Int32} (h : sr_R g sz su me un) (hn : n < sz) (h18 : n < 18) (k : g 0 n = 0) : sr_R g sz (upd su n 0) (upd me n 1) (upd un n 1) := by
  intro x hx
  obtain ⟨h1, h2⟩ := h x hx
  by_cases e : x = n
  · subst e
    rw [us_s, us_s, us_s]
    exact ⟨fun _ => Or.inr (Or.inr ⟨rfl, rfl, rfl⟩), fun z => absurd ⟨hn, k⟩ z⟩
  · rw [us_n e, us_n e, us_n e]
    exact ⟨h1, h2⟩
/-- rows raised -/
theorem rr_z {be tb : Nat → Int32} {p x : Nat} (hz : fr_z be p) (hx : x < 13) {v : Nat} (hv : v < 2 ^ 31) (ht : tb x = nI v) : sr_f (p * 13) (fun x => ix_x (tb x) (be (p * 13 + x))) be 13 (p * 13 + x) = nI v := by
  rw [sr_in hx, ht, hz x hx, ix_0 hv]
theorem rr_m {be tb : Nat → Int32} {p x : Nat} (hx : x < 13) {v u : Nat} (hv : v < 2 ^ 31) (hu : u < 2 ^ 31) (ht : tb x = nI v) (hb : be (p * 13 + x) = nI u) : sr_f (p * 13) (fun x => ix_x (tb x) (be (p * 13 + x))) be 13 (p * 13 + x) = nI (max v u) := by
  rw [sr_in hx, ht, hb, ix_nat hv hu]
theorem rr_gm {gr ag : Nat → Int32} {j x : Nat} (hx : x < 12) {v u : Nat} (hv : v < 2 ^ 31) (hu : u < 2 ^ 31) (ht : ag x = nI v) (hb : gr (12 * j + x) = nI u) : sr_f (12 * j) (fun x => ix_x (gr (12 * j + x)) (ag x)) gr 12 (12 * j + x) = nI (max v u) := by
  rw [sr_in hx, ht, hb, ix_nat hu hv, Nat.max_comm]
theorem rr_rz {w : Nat} {be gr tb ag : Nat → Int32} {p j : Nat} (hw : w ≤ 4) (A : ag_R w tb ag) (hz : fr_z be p) : fr_r w (sr_f (p * 13) (fun x => ix_x (tb x) (be (p * 13 + x))) be 13) (sr_f (12 * j) ag gr 12) p j := by
  intro m hm
  obtain ⟨a1, a, a2, a3⟩ := A m hm
  rw [sr_in hm, rr_z hz (by omega) (v := a) (by omega) (by rw [a1, a3])]
  exact ⟨a3.symm, a, a2, a3⟩
theorem rr_rm {w : Nat} {be gr tb ag : Nat → Int32} {p j : Nat} (hw : w ≤ 4) (A : ag_R w tb ag) (hr : fr_r w be gr p j) : fr_r w (sr_f (p * 13) (fun x => ix_x (tb x) (be (p * 13 + x))) be 13) (sr_f (12 * j) (fun x => ix_x (gr (12 * j + x)) (ag x)) gr 12) p j := by
  intro m hm
  obtain ⟨a1, a, a2, a3⟩ := A m hm
  obtain ⟨b1, b, b2, b3⟩ := hr m hm
  rw [rr_m (v := a) (u := b) (by omega) (by omega) (by omega) (by rw [a1, a3]) (by rw [b1, b3]), rr_gm (v := a) (u := b) hm (by omega) (by omega) a3 b3]
  exact ⟨rfl, max a b, by omega, rfl⟩
theorem ag_row {w : Nat} {be gr tb ag : Nat → Int32} {p j : Nat} (hr : fr_r w be gr p j) : ag_R w (sw_f (fun x => be (p * 13 + x)) tb 13) (sw_f (fun x => gr (12 * j + x)) ag 12) := by
  intro m hm
  rw [sw_lt (by omega), sw_lt hm]
  exact hr m hm
def tb_G (g : Nat → Nat → Nat) (root w : Nat) (f_setBits : Int32) (f_placeCount : Int32) (f_made : Int32) (f_height : Int32) (f_pathCount : Int32) (f_greatestLength : Int32) (f_worstTime : Int32) (f_bestTime : Int32) (f_worstCount : Int32) (f_programBound : Int32) (f_endingCount : Int32) (f_chosen : Int32) (f_time : Int32) (a_kind : Nat → Int32) (a_first : Nat → Int32) (a_second : Nat → Int32) (a_low : Nat → Int32) (a_high : Nat → Int32) (a_parent : Nat → Int32) (a_pathsOf : Nat → Int32) (a_lengthOf : Nat → Int32) (a_choicesOf : Nat → Int32) (a_stack : Nat → Int32) (a_worstPath : Nat → Int32) (a_sureness : Nat → Int32) (a_mostMisses : Nat → Int32) (a_mostHits : Nat → Int32) (a_leastMisses : Nat → Int32) (a_endings : Nat → Int64) (a_runsHolding : Nat → Int32) (a_rounds : Nat → Int32) (a_path : Nat → Int32) (a_pathTop : Nat → Int32) (a_cache : Nat → Int32) (a_runMisses : Nat → Int32) (a_runHits : Nat → Int32) (a_table : Nat → Int32) (a_before : Nat → Int32) (a_behind : Nat → Int32) (h_sets : Int32) (h_places : Int32) (h_made : Int32) (h_depth : Int32) (h_size : Int32) (h_bound : Int32) (h_under : Int32) (h_back : Int32) (b_sorts : Nat → Int32) (b_lows : Nat → Int32) (b_highs : Nat → Int32) (b_firsts : Nat → Int32) (b_seconds : Nat → Int32) (b_stack : Nat → Int32) (b_pathsOf : Nat → Int32) (b_lengthOf : Nat → Int32) (b_choicesOf : Nat → Int32) (b_ages : Nat → Int32) (b_phase : Nat → Int32) (b_node : Nat → Int32) (b_sum : Nat → Int32) (b_saved : Nat → Int32) (b_greatest : Nat → Int32) (b_met : Nat → Int32) (b_unsure : Nat → Int32) (at_ : Int32) (st : Nat) : Prop :=
  ∃ (bd : Nat) (rd tb bf be sn ag nd ph sm sv gr me us : Nat → Int32) (F1 F2 : Nat), tb 12 = nI bd ∧ sr_R g (root + 1) sn me us ∧
    (∀ post : SX → Prop, wX_walkTables_75 post f_setBits f_placeCount f_made f_height f_pathCount f_greatestLength f_worstTime f_bestTime f_worstCount f_programBound f_endingCount f_chosen f_time a_kind a_first a_second a_low a_high a_parent a_pathsOf a_lengthOf a_choicesOf a_stack a_worstPath sn a_mostMisses a_mostHits a_leastMisses a_endings a_runsHolding rd a_path a_pathTop a_cache a_runMisses a_runHits tb bf be → wX_walkTables_36 post (nI root) F1 at_ (nI st) f_setBits f_placeCount f_made f_height f_pathCount f_greatestLength f_worstTime f_bestTime f_worstCount f_programBound f_endingCount f_chosen f_time a_kind a_first a_second a_low a_high a_parent a_pathsOf a_lengthOf a_choicesOf a_stack a_worstPath a_sureness a_mostMisses a_mostHits a_leastMisses a_endings a_runsHolding a_rounds a_path a_pathTop a_cache a_runMisses a_runHits a_table a_before a_behind) ∧
    (∀ (h_open h_time h_chosen h_kept h_worst h_best h_worstRuns h_worstChoices h_ends : Int32) (b_todo b_path b_tops b_cache b_missed b_struck b_worstPath b_mostMissed b_mostStruck b_leastMissed b_held : Nat → Int32) (b_contents : Nat → Int64), ∀ post : SY → Prop, post (h_sets, h_places, h_made, h_depth, h_size, h_open, h_time, h_chosen, h_kept, h_worst, h_best, h_worstRuns, h_worstChoices, h_ends, nI bd, 0, nI bd, b_sorts, b_lows, b_highs, b_firsts, b_seconds, b_stack, b_pathsOf, b_lengthOf, b_choicesOf, b_todo, b_cache, b_path, b_tops, b_missed, b_struck, b_worstPath, b_mostMissed, b_mostStruck, b_leastMissed, b_held, b_contents, ag, ph, nd, sm, sv, gr, me, us) → wY_findBound_67 post F2 h_sets h_places h_made h_depth h_size h_open h_time h_chosen h_kept h_worst h_best h_worstRuns h_worstChoices h_ends h_bound h_under h_back b_sorts b_lows b_highs b_firsts b_seconds b_stack b_pathsOf b_lengthOf b_choicesOf b_todo b_cache b_path b_tops b_missed b_struck b_worstPath b_mostMissed b_mostStruck b_leastMissed b_held b_contents b_ages b_phase b_node b_sum b_saved b_greatest b_met b_unsure)
theorem tb_step {g : Nat → Nat → Nat} {root w : Nat} {f_setBits : Int32} {f_placeCount : Int32} {f_made : Int32} {f_height : Int32} {f_pathCount : Int32} {f_greatestLength : Int32} {f_worstTime : Int32} {f_bestTime : Int32} {f_worstCount : Int32} {f_programBound : Int32} {f_endingCount : Int32} {f_chosen : Int32} {f_time : Int32} {a_kind : Nat → Int32} {a_first : Nat → Int32} {a_second : Nat → Int32} {a_low : Nat → Int32} {a_high : Nat → Int32} {a_parent : Nat → Int32} {a_pathsOf : Nat → Int32} {a_lengthOf : Nat → Int32} {a_choicesOf : Nat → Int32} {a_stack : Nat → Int32} {a_worstPath : Nat → Int32} {a_sureness : Nat → Int32} {a_mostMisses : Nat → Int32} {a_mostHits : Nat → Int32} {a_leastMisses : Nat → Int32} {a_endings : Nat → Int64} {a_runsHolding : Nat → Int32} {a_rounds : Nat → Int32} {a_path : Nat → Int32} {a_pathTop : Nat → Int32} {a_cache : Nat → Int32} {a_runMisses : Nat → Int32} {a_runHits : Nat → Int32} {a_table : Nat → Int32} {a_before : Nat → Int32} {a_behind : Nat → Int32} {h_sets : Int32} {h_places : Int32} {h_made : Int32} {h_depth : Int32} {h_size : Int32} {h_bound : Int32} {h_under : Int32} {h_back : Int32} {b_sorts : Nat → Int32} {b_lows : Nat → Int32} {b_highs : Nat → Int32} {b_firsts : Nat → Int32} {b_seconds : Nat → Int32} {b_stack : Nat → Int32} {b_pathsOf : Nat → Int32} {b_lengthOf : Nat → Int32} {b_choicesOf : Nat → Int32} {b_ages : Nat → Int32} {b_phase : Nat → Int32} {b_node : Nat → Int32} {b_sum : Nat → Int32} {b_saved : Nat → Int32} {b_greatest : Nat → Int32} {b_met : Nat → Int32} {b_unsure : Nat → Int32} {at_ at2 un bk : Int32} {st : Nat} {rd tb bf be sn ag nd ph sm sv gr me us : Nat → Int32}
    (hX : ∀ (post : SX → Prop) F, wX_walkTables_36 post (nI root) F at2 (nI (st + 1)) f_setBits f_placeCount f_made f_height f_pathCount f_greatestLength f_worstTime f_bestTime f_worstCount f_programBound f_endingCount f_chosen f_time a_kind a_first a_second a_low a_high a_parent a_pathsOf a_lengthOf a_choicesOf a_stack a_worstPath sn a_mostMisses a_mostHits a_leastMisses a_endings a_runsHolding rd a_path a_pathTop a_cache a_runMisses a_runHits tb bf be → wX_walkTables_36 post (nI root) (F + 1) at_ (nI st) f_setBits f_placeCount f_made f_height f_pathCount f_greatestLength f_worstTime f_bestTime f_worstCount f_programBound f_endingCount f_chosen f_time a_kind a_first a_second a_low a_high a_parent a_pathsOf a_lengthOf a_choicesOf a_stack a_worstPath a_sureness a_mostMisses a_mostHits a_leastMisses a_endings a_runsHolding a_rounds a_path a_pathTop a_cache a_runMisses a_runHits a_table a_before a_behind)
    (hY : ∀ (h_open h_time h_chosen h_kept h_worst h_best h_worstRuns h_worstChoices h_ends : Int32) (b_todo b_path b_tops b_cache b_missed b_struck b_worstPath b_mostMissed b_mostStruck b_leastMissed b_held : Nat → Int32) (b_contents : Nat → Int64), ∀ (post : SY → Prop) F, wY_findBound_67 post F h_sets h_places h_made h_depth h_size h_open h_time h_chosen h_kept h_worst h_best h_worstRuns h_worstChoices h_ends h_bound un bk b_sorts b_lows b_highs b_firsts b_seconds b_stack b_pathsOf b_lengthOf b_choicesOf b_todo b_cache b_path b_tops b_missed b_struck b_worstPath b_mostMissed b_mostStruck b_leastMissed b_held b_contents ag ph nd sm sv gr me us → wY_findBound_67 post (F + 1) h_sets h_places h_made h_depth h_size h_open h_time h_chosen h_kept h_worst h_best h_worstRuns h_worstChoices h_ends h_bound h_under h_back b_sorts b_lows b_highs b_firsts b_seconds b_stack b_pathsOf b_lengthOf b_choicesOf b_todo b_cache b_path b_tops b_missed b_struck b_worstPath b_mostMissed b_mostStruck b_leastMissed b_held b_contents b_ages b_phase b_node b_sum b_saved b_greatest b_met b_unsure)
    (G : tb_G g root w f_setBits f_placeCount f_made f_height f_pathCount f_greatestLength f_worstTime f_bestTime f_worstCount f_programBound f_endingCount f_chosen f_time a_kind a_first a_second a_low a_high a_parent a_pathsOf a_lengthOf a_choicesOf a_stack a_worstPath sn a_mostMisses a_mostHits a_leastMisses a_endings a_runsHolding rd a_path a_pathTop a_cache a_runMisses a_runHits tb bf be h_sets h_places h_made h_depth h_size h_bound un bk b_sorts b_lows b_highs b_firsts b_seconds b_stack b_pathsOf b_lengthOf b_choicesOf ag ph nd sm sv gr me us at2 (st + 1)) : tb_G g root w f_setBits f_placeCount f_made f_height f_pathCount f_greatestLength f_worstTime f_bestTime f_worstCount f_programBound f_endingCount f_chosen f_time a_kind a_first a_second a_low a_high a_parent a_pathsOf a_lengthOf a_choicesOf a_stack a_worstPath a_sureness a_mostMisses a_mostHits a_leastMisses a_endings a_runsHolding a_rounds a_path a_pathTop a_cache a_runMisses a_runHits a_table a_before a_behind h_sets h_places h_made h_depth h_size h_bound h_under h_back b_sorts b_lows b_highs b_firsts b_seconds b_stack b_pathsOf b_lengthOf b_choicesOf b_ages b_phase b_node b_sum b_saved b_greatest b_met b_unsure at_ st := by
  obtain ⟨bd, rd', tb', bf', be', sn', ag', nd', ph', sm', sv', gr', me', us', F1, F2, e1, e2, e3, e4⟩ := G
  exact ⟨bd, rd', tb', bf', be', sn', ag', nd', ph', sm', sv', gr', me', us', F1 + 1, F2 + 1, e1, e2, fun post h => hX post F1 (e3 post h), fun h_open h_time h_chosen h_kept h_worst h_best h_worstRuns h_worstChoices h_ends b_todo b_path b_tops b_cache b_missed b_struck b_worstPath b_mostMissed b_mostStruck b_leastMissed b_held b_contents post h => hY h_open h_time h_chosen h_kept h_worst h_best h_worstRuns h_worstChoices h_ends b_todo b_path b_tops b_cache b_missed b_struck b_worstPath b_mostMissed b_mostStruck b_leastMissed b_held b_contents post F2 (e4 h_open h_time h_chosen h_kept h_worst h_best h_worstRuns h_worstChoices h_ends b_todo b_path b_tops b_cache b_missed b_struck b_worstPath b_mostMissed b_mostStruck b_leastMissed b_held b_contents post h)⟩
