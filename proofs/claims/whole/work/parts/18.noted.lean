/-! the notes of both sides -/
theorem nd_A {g : Nat → Nat → Nat} {sz : Nat} {ki xs ys xr yr : Nat → Int32} {f : Int32 → Int32 → Int32} (hsz : sz ≤ 18) (A : nt_A g sz xs ys) (hr : ∀ n, n < 18 → xr n = yr n) (hk : ∀ n, n < sz → ki n = nI (g 0 n) ∧ g 0 n ≤ 4) :
    nt_A g sz (sw_f (fun j => if ki j = 0 then f (xs j) (xr j) else xs j) xs sz) (sw_f (fun j => f (ys j) (yr j)) ys 18) := by
  intro n hn
  obtain ⟨a1, a2⟩ := A n hn
  refine ⟨fun h => ?_, fun h => ?_⟩
  · rw [sw_lt h.1, sw_lt hn, if_pos (by rw [(hk n h.1).1, h.2]; rfl), a1 h, hr n hn]
  · rcases Nat.lt_or_ge n sz with z | z
    · rw [sw_lt z, if_neg, a2 h]
      obtain ⟨k1, k2⟩ := hk n z
      rw [k1]
      exact nI_ne0 (by omega) (by omega)
    · rw [sw_ge z, a2 h]
theorem nd_time {f_setBits : Int32} {f_placeCount : Int32} {f_made : Int32} {f_height : Int32} {f_pathCount : Int32} {f_greatestLength : Int32} {f_worstTime : Int32} {f_bestTime : Int32} {f_worstCount : Int32} {f_programBound : Int32} {f_endingCount : Int32} {f_chosen : Int32} {f_time : Int32} {a_kind : Nat → Int32} {a_first : Nat → Int32} {a_second : Nat → Int32} {a_low : Nat → Int32} {a_high : Nat → Int32} {a_parent : Nat → Int32} {a_pathsOf : Nat → Int32} {a_lengthOf : Nat → Int32} {a_choicesOf : Nat → Int32} {a_stack : Nat → Int32} {a_worstPath : Nat → Int32} {a_sureness : Nat → Int32} {a_mostMisses : Nat → Int32} {a_mostHits : Nat → Int32} {a_leastMisses : Nat → Int32} {a_endings : Nat → Int64} {a_runsHolding : Nat → Int32} {a_rounds : Nat → Int32} {a_path : Nat → Int32} {a_pathTop : Nat → Int32} {a_cache : Nat → Int32} {a_runMisses : Nat → Int32} {a_runHits : Nat → Int32} {a_table : Nat → Int32} {a_before : Nat → Int32} {a_behind : Nat → Int32} {h_sets : Int32} {h_places : Int32} {h_made : Int32} {h_depth : Int32} {h_size : Int32} {h_open : Int32} {h_time : Int32} {h_chosen : Int32} {h_kept : Int32} {h_worst : Int32} {h_best : Int32} {h_worstRuns : Int32} {h_worstChoices : Int32} {h_ends : Int32} {h_bound : Int32} {h_under : Int32} {h_back : Int32} {b_sorts : Nat → Int32} {b_lows : Nat → Int32} {b_highs : Nat → Int32} {b_firsts : Nat → Int32} {b_seconds : Nat → Int32} {b_stack : Nat → Int32} {b_pathsOf : Nat → Int32} {b_lengthOf : Nat → Int32} {b_choicesOf : Nat → Int32} {b_todo : Nat → Int32} {b_cache : Nat → Int32} {b_path : Nat → Int32} {b_tops : Nat → Int32} {b_missed : Nat → Int32} {b_struck : Nat → Int32} {b_worstPath : Nat → Int32} {b_mostMissed : Nat → Int32} {b_mostStruck : Nat → Int32} {b_leastMissed : Nat → Int32} {b_held : Nat → Int32} {b_contents : Nat → Int64} {b_ages : Nat → Int32} {b_phase : Nat → Int32} {b_node : Nat → Int32} {b_sum : Nat → Int32} {b_saved : Nat → Int32} {b_greatest : Nat → Int32} {b_met : Nat → Int32} {b_unsure : Nat → Int32} {tt t : Nat} (htt : tt ≤ 200000) (ht : t ≤ 20) (e1 : f_time = nI tt) (e2 : h_time = nI tt) (e3 : h_chosen = nI t) (ew : f_worstTime = h_worst)
    (hw : h_worst = -1 ∨ ∃ z, z ≤ 200000 ∧ h_worst = nI z) (hp : ∀ k, k < 20 → (k < t → b_path k = a_path k) ∧ (¬ k < t → a_path k = -4)) (W : nt_W h_worst f_worstCount h_worstRuns h_worstChoices a_worstPath b_worstPath) :
    ∃ (wt xc yc yw : Int32) (xp yp : Nat → Int32), (∃ z, z ≤ 200000 ∧ wt = nI z) ∧ nt_W wt xc yc yw xp yp ∧
      (∀ post : SX → Prop, post (f_setBits, f_placeCount, f_made, f_height, f_pathCount, f_greatestLength, wt, ix_n f_time f_bestTime, xc, f_programBound, f_endingCount, f_chosen, f_time, a_kind, a_first, a_second, a_low, a_high, a_parent, a_pathsOf, a_lengthOf, a_choicesOf, a_stack, xp, a_sureness, a_mostMisses, a_mostHits, a_leastMisses, a_endings, a_runsHolding, a_rounds, a_path, a_pathTop, a_cache, a_runMisses, a_runHits, a_table, a_before, a_behind) → wpX_noteTime post (f_setBits, f_placeCount, f_made, f_height, f_pathCount, f_greatestLength, f_worstTime, f_bestTime, f_worstCount, f_programBound, f_endingCount, f_chosen, f_time, a_kind, a_first, a_second, a_low, a_high, a_parent, a_pathsOf, a_lengthOf, a_choicesOf, a_stack, a_worstPath, a_sureness, a_mostMisses, a_mostHits, a_leastMisses, a_endings, a_runsHolding, a_rounds, a_path, a_pathTop, a_cache, a_runMisses, a_runHits, a_table, a_before, a_behind)) ∧
      (∀ post : SY → Prop, wY_note_81 post h_sets h_places h_made h_depth h_size h_open h_time h_chosen h_kept wt h_best yc yw h_ends h_bound h_under h_back b_sorts b_lows b_highs b_firsts b_seconds b_stack b_pathsOf b_lengthOf b_choicesOf b_todo b_cache b_path b_tops b_missed b_struck yp b_mostMissed b_mostStruck b_leastMissed b_held b_contents b_ages b_phase b_node b_sum b_saved b_greatest b_met b_unsure → wpY_note post (h_sets, h_places, h_made, h_depth, h_size, h_open, h_time, h_chosen, h_kept, h_worst, h_best, h_worstRuns, h_worstChoices, h_ends, h_bound, h_under, h_back, b_sorts, b_lows, b_highs, b_firsts, b_seconds, b_stack, b_pathsOf, b_lengthOf, b_choicesOf, b_todo, b_cache, b_path, b_tops, b_missed, b_struck, b_worstPath, b_mostMissed, b_mostStruck, b_leastMissed, b_held, b_contents, b_ages, b_phase, b_node, b_sum, b_saved, b_greatest, b_met, b_unsure)) := by
  have ew := ew.symm
  subst ew e1 e2
  have m1 : ∀ x : Nat, x ≤ 200000 → ¬ nI x ≤ -1 := by
    intro x hx h
    have h1 := Int32.le_iff_toInt_le.mp h
    rw [nI_toInt (by omega)] at h1
    have h2 : (-1 : Int32).toInt = -1 := by decide
    omega
  by_cases h : nI tt ≤ h_worst
  · have hz : ∃ z, z ≤ 200000 ∧ h_worst = nI z := by
      rcases hw with y | y
      · rw [y] at h; exact absurd h (m1 tt htt)
      · exact y
    have W' : f_worstCount = h_worstRuns ∧ ∃ wc, wc ≤ 20 ∧ h_worstChoices = nI wc ∧ ∀ k, k < 20 → (k < wc → a_worstPath k = b_worstPath k) ∧ (¬ k < wc → a_worstPath k = -4) := by
      rcases W with y | y
      · rw [y] at h; exact absurd h (m1 tt htt)
      · exact y
    by_cases e : nI tt = h_worst
    · refine ⟨h_worst, f_worstCount + 1, h_worstRuns + 1, h_worstChoices, a_worstPath, b_worstPath, hz, Or.inr ⟨by rw [W'.1], W'.2⟩, fun post H => ?_, fun post H => ?_⟩
      · exact xn_time (fun y => absurd h y) (fun _ => H) (fun _ y => absurd e y)
      · exact yn_note ht e3 (fun y => absurd h y) (fun _ => H) (fun _ y => absurd e y)
    · refine ⟨h_worst, f_worstCount, h_worstRuns, h_worstChoices, a_worstPath, b_worstPath, hz, Or.inr W', fun post H => ?_, fun post H => ?_⟩
      · exact xn_time (fun y => absurd h y) (fun y => absurd y e) (fun _ _ => H)
      · exact yn_note ht e3 (fun y => absurd h y) (fun y => absurd y e) (fun _ _ => H)
  · refine ⟨nI tt, 0 + 1, 0 + 1, h_chosen, sw_f a_path a_worstPath 20, sw_f b_path b_worstPath t, ⟨tt, htt, rfl⟩, Or.inr ⟨rfl, t, ht, e3, fun k hk => ⟨fun z => ?_, fun z => ?_⟩⟩, fun post H => ?_, fun post H => ?_⟩
    · rw [sw_lt hk, sw_lt z, (hp k hk).1 z]
    · rw [sw_lt hk, (hp k hk).2 z]
    · exact xn_time (fun _ => H) (fun y => absurd (by rw [y]; exact Int32.le_refl _) h) (fun y => absurd y h)
    · exact yn_note ht e3 (fun _ => H) (fun y => absurd (by rw [y]; exact Int32.le_refl _) h) (fun y => absurd y h)
theorem nd_xacc {f_setBits : Int32} {f_placeCount : Int32} {f_made : Int32} {f_height : Int32} {f_pathCount : Int32} {f_greatestLength : Int32} {f_worstTime : Int32} {f_bestTime : Int32} {f_worstCount : Int32} {f_programBound : Int32} {f_endingCount : Int32} {f_chosen : Int32} {f_time : Int32} {a_kind : Nat → Int32} {a_first : Nat → Int32} {a_second : Nat → Int32} {a_low : Nat → Int32} {a_high : Nat → Int32} {a_parent : Nat → Int32} {a_pathsOf : Nat → Int32} {a_lengthOf : Nat → Int32} {a_choicesOf : Nat → Int32} {a_stack : Nat → Int32} {a_worstPath : Nat → Int32} {a_sureness : Nat → Int32} {a_mostMisses : Nat → Int32} {a_mostHits : Nat → Int32} {a_leastMisses : Nat → Int32} {a_endings : Nat → Int64} {a_runsHolding : Nat → Int32} {a_rounds : Nat → Int32} {a_path : Nat → Int32} {a_pathTop : Nat → Int32} {a_cache : Nat → Int32} {a_runMisses : Nat → Int32} {a_runHits : Nat → Int32} {a_table : Nat → Int32} {a_before : Nat → Int32} {a_behind : Nat → Int32} {post : SX → Prop} {ma : Nat} (hma : ma ≤ 18) (hm : f_made = nI ma)
    (H : post (f_setBits, f_placeCount, f_made, f_height, f_pathCount, f_greatestLength, f_worstTime, f_bestTime, f_worstCount, f_programBound, f_endingCount, f_chosen, f_time, a_kind, a_first, a_second, a_low, a_high, a_parent, a_pathsOf, a_lengthOf, a_choicesOf, a_stack, a_worstPath, a_sureness, sw_f (fun j => if a_kind j = 0 then ix_x (a_mostMisses j) (a_runMisses j) else a_mostMisses j) a_mostMisses ma, sw_f (fun j => if a_kind j = 0 then ix_x (a_mostHits j) (a_runHits j) else a_mostHits j) a_mostHits ma, sw_f (fun j => if a_kind j = 0 then ix_n (a_leastMisses j) (a_runMisses j) else a_leastMisses j) a_leastMisses ma, a_endings, a_runsHolding, a_rounds, a_path, a_pathTop, a_cache, a_runMisses, a_runHits, a_table, a_before, a_behind)) : wpX_noteAccesses post (f_setBits, f_placeCount, f_made, f_height, f_pathCount, f_greatestLength, f_worstTime, f_bestTime, f_worstCount, f_programBound, f_endingCount, f_chosen, f_time, a_kind, a_first, a_second, a_low, a_high, a_parent, a_pathsOf, a_lengthOf, a_choicesOf, a_stack, a_worstPath, a_sureness, a_mostMisses, a_mostHits, a_leastMisses, a_endings, a_runsHolding, a_rounds, a_path, a_pathTop, a_cache, a_runMisses, a_runHits, a_table, a_before, a_behind) := by
  have L := xn_acc (a_mostMisses := a_mostMisses) (a_mostHits := a_mostHits) (a_leastMisses := a_leastMisses) hma hm H ma 0 (by omega)
  rw [sw_0, sw_0, sw_0] at L
  exact Exists.intro (ma + 1) L
theorem nd_y81 {h_sets : Int32} {h_places : Int32} {h_made : Int32} {h_depth : Int32} {h_size : Int32} {h_open : Int32} {h_time : Int32} {h_chosen : Int32} {h_kept : Int32} {h_worst : Int32} {h_best : Int32} {h_worstRuns : Int32} {h_worstChoices : Int32} {h_ends : Int32} {h_bound : Int32} {h_under : Int32} {h_back : Int32} {b_sorts : Nat → Int32} {b_lows : Nat → Int32} {b_highs : Nat → Int32} {b_firsts : Nat → Int32} {b_seconds : Nat → Int32} {b_stack : Nat → Int32} {b_pathsOf : Nat → Int32} {b_lengthOf : Nat → Int32} {b_choicesOf : Nat → Int32} {b_todo : Nat → Int32} {b_cache : Nat → Int32} {b_path : Nat → Int32} {b_tops : Nat → Int32} {b_missed : Nat → Int32} {b_struck : Nat → Int32} {b_worstPath : Nat → Int32} {b_mostMissed : Nat → Int32} {b_mostStruck : Nat → Int32} {b_leastMissed : Nat → Int32} {b_held : Nat → Int32} {b_contents : Nat → Int64} {b_ages : Nat → Int32} {b_phase : Nat → Int32} {b_node : Nat → Int32} {b_sum : Nat → Int32} {b_saved : Nat → Int32} {b_greatest : Nat → Int32} {b_met : Nat → Int32} {b_unsure : Nat → Int32} {post : SY → Prop}
    (H : ∃ n181 : Nat, wY_note_181 post h_sets h_places h_made h_depth h_size h_open h_time h_chosen h_kept h_worst (ix_n h_best h_time) h_worstRuns h_worstChoices h_ends h_bound h_under h_back n181 0 0 b_sorts b_lows b_highs b_firsts b_seconds b_stack b_pathsOf b_lengthOf b_choicesOf b_todo b_cache b_path b_tops b_missed b_struck b_worstPath (sw_f (fun j => ix_x (b_mostMissed j) (b_missed j)) b_mostMissed 18) (sw_f (fun j => ix_x (b_mostStruck j) (b_struck j)) b_mostStruck 18) (sw_f (fun j => ix_n (b_leastMissed j) (b_missed j)) b_leastMissed 18) b_held b_contents b_ages b_phase b_node b_sum b_saved b_greatest b_met b_unsure) : wY_note_81 post h_sets h_places h_made h_depth h_size h_open h_time h_chosen h_kept h_worst h_best h_worstRuns h_worstChoices h_ends h_bound h_under h_back b_sorts b_lows b_highs b_firsts b_seconds b_stack b_pathsOf b_lengthOf b_choicesOf b_todo b_cache b_path b_tops b_missed b_struck b_worstPath b_mostMissed b_mostStruck b_leastMissed b_held b_contents b_ages b_phase b_node b_sum b_saved b_greatest b_met b_unsure := by
  refine iy_L ?_
  have L := yn_acc (b_mostMissed := b_mostMissed) (b_mostStruck := b_mostStruck) (b_leastMissed := b_leastMissed) H 18 0 (by omega)
  rw [sw_0, sw_0, sw_0] at L
  exact ⟨19, L⟩
theorem nd_code {w s : Nat} {ag ce ag2 ce2 : Nat → Int32} (hw : w ≤ 4) (hs0 : 0 < s) (hs : s ≤ 4) (R : cr_R w s ag ce) (R2 : cr_R w s ag2 ce2) : lN (cd_c 8 (nt_x ag) 12) = lN (cd_c 8 (nt_x ag2) 12) ↔ lN (cd_c 13 (nt_y ce) 16) = lN (cd_c 13 (nt_y ce2) 16) := by
  have b13 : 13 ^ 16 < 2 ^ 63 := by decide
  have x1 := cd_12 (Nat.le_refl 12) (fun i hi => (nt_xlt hw R i hi).1)
  have x2 := cd_12 (Nat.le_refl 12) (fun i hi => (nt_xlt hw R2 i hi).1)
  have y1 := cd_lt (b := 13) 16 (fun i hi => (nt_ylt R i hi).1)
  have y2 := cd_lt (b := 13) 16 (fun i hi => (nt_ylt R2 i hi).1)
  rw [pk_lEQ (by omega) (by omega), pk_lEQ (Nat.lt_trans y1 b13) (Nat.lt_trans y2 b13)]
  exact nt_same hw hs0 hs R R2
theorem nd_end {f_setBits : Int32} {f_placeCount : Int32} {f_made : Int32} {f_height : Int32} {f_pathCount : Int32} {f_greatestLength : Int32} {f_worstTime : Int32} {f_bestTime : Int32} {f_worstCount : Int32} {f_programBound : Int32} {f_endingCount : Int32} {f_chosen : Int32} {f_time : Int32} {a_kind : Nat → Int32} {a_first : Nat → Int32} {a_second : Nat → Int32} {a_low : Nat → Int32} {a_high : Nat → Int32} {a_parent : Nat → Int32} {a_pathsOf : Nat → Int32} {a_lengthOf : Nat → Int32} {a_choicesOf : Nat → Int32} {a_stack : Nat → Int32} {a_worstPath : Nat → Int32} {a_sureness : Nat → Int32} {a_mostMisses : Nat → Int32} {a_mostHits : Nat → Int32} {a_leastMisses : Nat → Int32} {a_endings : Nat → Int64} {a_runsHolding : Nat → Int32} {a_rounds : Nat → Int32} {a_path : Nat → Int32} {a_pathTop : Nat → Int32} {a_cache : Nat → Int32} {a_runMisses : Nat → Int32} {a_runHits : Nat → Int32} {a_table : Nat → Int32} {a_before : Nat → Int32} {a_behind : Nat → Int32} {h_sets : Int32} {h_places : Int32} {h_made : Int32} {h_depth : Int32} {h_size : Int32} {h_open : Int32} {h_time : Int32} {h_chosen : Int32} {h_kept : Int32} {h_worst : Int32} {h_best : Int32} {h_worstRuns : Int32} {h_worstChoices : Int32} {h_ends : Int32} {h_bound : Int32} {h_under : Int32} {h_back : Int32} {b_sorts : Nat → Int32} {b_lows : Nat → Int32} {b_highs : Nat → Int32} {b_firsts : Nat → Int32} {b_seconds : Nat → Int32} {b_stack : Nat → Int32} {b_pathsOf : Nat → Int32} {b_lengthOf : Nat → Int32} {b_choicesOf : Nat → Int32} {b_todo : Nat → Int32} {b_cache : Nat → Int32} {b_path : Nat → Int32} {b_tops : Nat → Int32} {b_missed : Nat → Int32} {b_struck : Nat → Int32} {b_worstPath : Nat → Int32} {b_mostMissed : Nat → Int32} {b_mostStruck : Nat → Int32} {b_leastMissed : Nat → Int32} {b_held : Nat → Int32} {b_contents : Nat → Int64} {b_ages : Nat → Int32} {b_phase : Nat → Int32} {b_node : Nat → Int32} {b_sum : Nat → Int32} {b_saved : Nat → Int32} {b_greatest : Nat → Int32} {b_met : Nat → Int32} {b_unsure : Nat → Int32} {w s en : Nat} (hw : w ≤ 4) (hs0 : 0 < s) (hs : s ≤ 4) (hpc : f_placeCount = nI w) (R : cr_R w s a_cache b_cache) (hen : en < 150) (e1 : f_endingCount = nI en) (e2 : h_ends = nI en) (E : nt_E w s en a_endings b_contents)
    (hh : ∀ m, m < 12 → a_runsHolding m = b_held m) :
    ∃ (en' : Nat) (xe ye : Nat → Int64) (xh yh : Nat → Int32), en' ≤ en + 1 ∧ nt_E w s en' xe ye ∧ (∀ m, m < 12 → xh m = yh m) ∧
      (∀ post : SX → Prop, post (f_setBits, f_placeCount, f_made, f_height, f_pathCount, f_greatestLength, f_worstTime, f_bestTime, f_worstCount, f_programBound, nI en', f_chosen, f_time, a_kind, a_first, a_second, a_low, a_high, a_parent, a_pathsOf, a_lengthOf, a_choicesOf, a_stack, a_worstPath, a_sureness, a_mostMisses, a_mostHits, a_leastMisses, xe, xh, a_rounds, a_path, a_pathTop, a_cache, a_runMisses, a_runHits, a_table, a_before, a_behind) → wpX_noteEnding post (f_setBits, f_placeCount, f_made, f_height, f_pathCount, f_greatestLength, f_worstTime, f_bestTime, f_worstCount, f_programBound, f_endingCount, f_chosen, f_time, a_kind, a_first, a_second, a_low, a_high, a_parent, a_pathsOf, a_lengthOf, a_choicesOf, a_stack, a_worstPath, a_sureness, a_mostMisses, a_mostHits, a_leastMisses, a_endings, a_runsHolding, a_rounds, a_path, a_pathTop, a_cache, a_runMisses, a_runHits, a_table, a_before, a_behind)) ∧
      (∀ post : SY → Prop, post (h_sets, h_places, h_made, h_depth, h_size, h_open, h_time, h_chosen, h_kept, h_worst, h_best, h_worstRuns, h_worstChoices, nI en', h_bound, h_under, h_back, b_sorts, b_lows, b_highs, b_firsts, b_seconds, b_stack, b_pathsOf, b_lengthOf, b_choicesOf, b_todo, b_cache, b_path, b_tops, b_missed, b_struck, b_worstPath, b_mostMissed, b_mostStruck, b_leastMissed, yh, ye, b_ages, b_phase, b_node, b_sum, b_saved, b_greatest, b_met, b_unsure) → ∃ n181 : Nat, wY_note_181 post h_sets h_places h_made h_depth h_size h_open h_time h_chosen h_kept h_worst h_best h_worstRuns h_worstChoices h_ends h_bound h_under h_back n181 0 0 b_sorts b_lows b_highs b_firsts b_seconds b_stack b_pathsOf b_lengthOf b_choicesOf b_todo b_cache b_path b_tops b_missed b_struck b_worstPath b_mostMissed b_mostStruck b_leastMissed b_held b_contents b_ages b_phase b_node b_sum b_saved b_greatest b_met b_unsure) := by
  have hc : ∀ m, m < 12 → nt_x a_cache m < 8 ∧ a_cache m = nI (nt_x a_cache m) := fun m hm => ⟨(nt_xlt hw R m hm).1, (nt_xlt hw R m hm).2.1⟩
  have hx : ∀ (post : SX → Prop), (∃ n56 : Nat, wX_noteEnding_56 post (lN (cd_c 8 (nt_x a_cache) 12)) f_setBits f_placeCount f_made f_height f_pathCount f_greatestLength f_worstTime f_bestTime f_worstCount f_programBound f_endingCount f_chosen f_time a_kind a_first a_second a_low a_high a_parent a_pathsOf a_lengthOf a_choicesOf a_stack a_worstPath a_sureness a_mostMisses a_mostHits a_leastMisses a_endings (sw_f (fun j => if nt_x a_cache j < w then a_runsHolding j + 1 else a_runsHolding j) a_runsHolding 12) a_rounds a_path a_pathTop a_cache a_runMisses a_runHits a_table a_before a_behind n56 0 0) → wpX_noteEnding post (f_setBits, f_placeCount, f_made, f_height, f_pathCount, f_greatestLength, f_worstTime, f_bestTime, f_worstCount, f_programBound, f_endingCount, f_chosen, f_time, a_kind, a_first, a_second, a_low, a_high, a_parent, a_pathsOf, a_lengthOf, a_choicesOf, a_stack, a_worstPath, a_sureness, a_mostMisses, a_mostHits, a_leastMisses, a_endings, a_runsHolding, a_rounds, a_path, a_pathTop, a_cache, a_runMisses, a_runHits, a_table, a_before, a_behind) := by
    intro post H
    have L := xn_4 (a_runsHolding := a_runsHolding) hw hpc hc H 12 0 (by omega)
    rw [sw_0] at L
    exact Exists.intro 13 L
  have hy : ∀ (post : SY → Prop), (∃ n238 : Nat, wY_note_238 post (lN (cd_c 13 (nt_y b_cache) 16)) h_sets h_places h_made h_depth h_size h_open h_time h_chosen h_kept h_worst h_best h_worstRuns h_worstChoices h_ends h_bound h_under h_back b_sorts b_lows b_highs b_firsts b_seconds b_stack b_pathsOf b_lengthOf b_choicesOf b_todo b_cache b_path b_tops b_missed b_struck b_worstPath b_mostMissed b_mostStruck b_leastMissed (hd_f w s a_cache b_held 16) b_contents b_ages b_phase b_node b_sum b_saved b_greatest b_met b_unsure n238 0 0) → ∃ n181 : Nat, wY_note_181 post h_sets h_places h_made h_depth h_size h_open h_time h_chosen h_kept h_worst h_best h_worstRuns h_worstChoices h_ends h_bound h_under h_back n181 0 0 b_sorts b_lows b_highs b_firsts b_seconds b_stack b_pathsOf b_lengthOf b_choicesOf b_todo b_cache b_path b_tops b_missed b_struck b_worstPath b_mostMissed b_mostStruck b_leastMissed b_held b_contents b_ages b_phase b_node b_sum b_saved b_greatest b_met b_unsure := by
    intro post H
    have L := yn_181 (b_held := b_held) hw hs0 hs R H 16 0 (by omega)
    rw [hd_0] at L
    exact Exists.intro 17 L
  have hheld : ∀ m, m < 12 → sw_f (fun j => if nt_x a_cache j < w then a_runsHolding j + 1 else a_runsHolding j) a_runsHolding 12 m = hd_f w s a_cache b_held 16 m := by
    intro m hm
    rw [sw_lt hm, hd_16 hw hs0 hs m hm, hh m hm]
  have same : ∀ i, i < en → (a_endings i = lN (cd_c 8 (nt_x a_cache) 12) ↔ b_contents i = lN (cd_c 13 (nt_y b_cache) 16)) := by
    intro i hi
    obtain ⟨ag, ce, r1, r2, r3⟩ := E i hi
    rw [r2, r3]
    exact nd_code hw hs0 hs r1 R
  by_cases k : ∃ i, i < en ∧ a_endings i = lN (cd_c 8 (nt_x a_cache) 12)
  · have k2 : ∃ i, i < en ∧ b_contents i = lN (cd_c 13 (nt_y b_cache) 16) := by
      obtain ⟨i, i1, i2⟩ := k
      exact ⟨i, i1, (same i i1).mp i2⟩
    refine ⟨en, a_endings, b_contents, _, _, by omega, E, hheld, fun post H => hx post ⟨en + 1, ?_⟩, fun post H => hy post ⟨en + 1, ?_⟩⟩
    · rw [← e1] at H
      refine xn_56 hen e1 (fun z => ?_) (fun _ => H) en 0 (by omega) (fun j hj => by omega)
      obtain ⟨i, i1, i2⟩ := k
      exact absurd i2 (z i i1)
    · rw [← e2] at H
      refine yn_238 hen e2 (fun z => ?_) (fun _ => H) en 0 (by omega) (fun j hj => by omega)
      obtain ⟨i, i1, i2⟩ := k2
      exact absurd i2 (z i i1)
  · have k2 : ¬ ∃ i, i < en ∧ b_contents i = lN (cd_c 13 (nt_y b_cache) 16) := fun ⟨i, i1, i2⟩ => k ⟨i, i1, (same i i1).mpr i2⟩
    refine ⟨en + 1, vp_updL a_endings en (lN (cd_c 8 (nt_x a_cache) 12)), vp_updL b_contents en (lN (cd_c 13 (nt_y b_cache) 16)), _, _, Nat.le_refl _, fun i hi => ?_, hheld, fun post H => hx post ⟨en + 1, ?_⟩, fun post H => hy post ⟨en + 1, ?_⟩⟩
    · by_cases z : i = en
      · subst z
        exact ⟨a_cache, b_cache, R, pk_uLs, pk_uLs⟩
      · obtain ⟨ag, ce, r1, r2, r3⟩ := E i (by omega)
        exact ⟨ag, ce, r1, by rw [pk_uLn z]; exact r2, by rw [pk_uLn z]; exact r3⟩
    · exact xn_56 hen e1 (fun _ => H) (fun z => absurd z k) en 0 (by omega) (fun j hj => by omega)
    · exact yn_238 hen e2 (fun _ => H) (fun z => absurd z k2) en 0 (by omega) (fun j hj => by omega)
/-! the next path -/
theorem np_go {f_setBits : Int32} {f_placeCount : Int32} {f_made : Int32} {f_height : Int32} {f_pathCount : Int32} {f_greatestLength : Int32} {f_worstTime : Int32} {f_bestTime : Int32} {f_worstCount : Int32} {f_programBound : Int32} {f_endingCount : Int32} {f_chosen : Int32} {f_time : Int32} {a_kind : Nat → Int32} {a_first : Nat → Int32} {a_second : Nat → Int32} {a_low : Nat → Int32} {a_high : Nat → Int32} {a_parent : Nat → Int32} {a_pathsOf : Nat → Int32} {a_lengthOf : Nat → Int32} {a_choicesOf : Nat → Int32} {a_stack : Nat → Int32} {a_worstPath : Nat → Int32} {a_sureness : Nat → Int32} {a_mostMisses : Nat → Int32} {a_mostHits : Nat → Int32} {a_leastMisses : Nat → Int32} {a_endings : Nat → Int64} {a_runsHolding : Nat → Int32} {a_rounds : Nat → Int32} {a_path : Nat → Int32} {a_pathTop : Nat → Int32} {a_cache : Nat → Int32} {a_runMisses : Nat → Int32} {a_runHits : Nat → Int32} {a_table : Nat → Int32} {a_before : Nat → Int32} {a_behind : Nat → Int32} {h_sets : Int32} {h_places : Int32} {h_made : Int32} {h_depth : Int32} {h_size : Int32} {h_open : Int32} {h_time : Int32} {h_chosen : Int32} {h_kept : Int32} {h_worst : Int32} {h_best : Int32} {h_worstRuns : Int32} {h_worstChoices : Int32} {h_ends : Int32} {h_bound : Int32} {h_under : Int32} {h_back : Int32} {b_sorts : Nat → Int32} {b_lows : Nat → Int32} {b_highs : Nat → Int32} {b_firsts : Nat → Int32} {b_seconds : Nat → Int32} {b_stack : Nat → Int32} {b_pathsOf : Nat → Int32} {b_lengthOf : Nat → Int32} {b_choicesOf : Nat → Int32} {b_todo : Nat → Int32} {b_cache : Nat → Int32} {b_path : Nat → Int32} {b_tops : Nat → Int32} {b_missed : Nat → Int32} {b_struck : Nat → Int32} {b_worstPath : Nat → Int32} {b_mostMissed : Nat → Int32} {b_mostStruck : Nat → Int32} {b_leastMissed : Nat → Int32} {b_held : Nat → Int32} {b_contents : Nat → Int64} {b_ages : Nat → Int32} {b_phase : Nat → Int32} {b_node : Nat → Int32} {b_sum : Nat → Int32} {b_saved : Nat → Int32} {b_greatest : Nat → Int32} {b_met : Nat → Int32} {b_unsure : Nat → Int32} {t : Nat} (ht : t ≤ 20)
    (F : ∀ k, k < t → ∃ a b, a ≤ b ∧ b ≤ 4 ∧ a_path k = nI a ∧ b_path k = nI a ∧ a_pathTop k = nI b ∧ b_tops k = nI b) :
    ∀ d, d ≤ t → (∃ (pa : Nat → Int32), (∀ k, k < 20 → pa k = if k < t then -4 else a_path k) ∧
        (∀ post : Int32 → SX → Prop, post 0 (f_setBits, f_placeCount, f_made, f_height, f_pathCount, f_greatestLength, f_worstTime, f_bestTime, f_worstCount, f_programBound, f_endingCount, f_chosen, f_time, a_kind, a_first, a_second, a_low, a_high, a_parent, a_pathsOf, a_lengthOf, a_choicesOf, a_stack, a_worstPath, a_sureness, a_mostMisses, a_mostHits, a_leastMisses, a_endings, a_runsHolding, a_rounds, pa, a_pathTop, a_cache, a_runMisses, a_runHits, a_table, a_before, a_behind) → wX_toNextPath_7 post f_setBits f_placeCount f_made f_height f_pathCount f_greatestLength f_worstTime f_bestTime f_worstCount f_programBound f_endingCount f_chosen f_time (d + 1) (nI d - 1) a_kind a_first a_second a_low a_high a_parent a_pathsOf a_lengthOf a_choicesOf a_stack a_worstPath a_sureness a_mostMisses a_mostHits a_leastMisses a_endings a_runsHolding a_rounds (fun k => if d ≤ k ∧ k < t then -4 else a_path k) a_pathTop a_cache a_runMisses a_runHits a_table a_before a_behind) ∧
        (∀ post : Int32 → SY → Prop, post 0 (h_sets, h_places, h_made, h_depth, h_size, h_open, h_time, h_chosen, h_kept, h_worst, h_best, h_worstRuns, h_worstChoices, h_ends, h_bound, h_under, h_back, b_sorts, b_lows, b_highs, b_firsts, b_seconds, b_stack, b_pathsOf, b_lengthOf, b_choicesOf, b_todo, b_cache, b_path, b_tops, b_missed, b_struck, b_worstPath, b_mostMissed, b_mostStruck, b_leastMissed, b_held, b_contents, b_ages, b_phase, b_node, b_sum, b_saved, b_greatest, b_met, b_unsure) → wY_nextPath_7 post h_sets h_places h_made h_depth h_size h_open h_time h_chosen h_kept h_worst h_best h_worstRuns h_worstChoices h_ends h_bound h_under h_back b_sorts b_lows b_highs b_firsts b_seconds b_stack b_pathsOf b_lengthOf b_choicesOf b_todo b_cache b_path b_tops b_missed b_struck b_worstPath b_mostMissed b_mostStruck b_leastMissed b_held b_contents b_ages b_phase b_node b_sum b_saved b_greatest b_met b_unsure (d + 1) (nI d - 1))) ∨
      (∃ (s a : Nat) (pa : Nat → Int32), s < d ∧ a_path s = nI a ∧ a ≤ 4 ∧ a_path s < a_pathTop s ∧ (∀ k, pa k = if k = s then nI (a + 1) else if s < k ∧ k < t then -4 else a_path k) ∧
        (∀ post : Int32 → SX → Prop, post 1 (f_setBits, f_placeCount, f_made, f_height, f_pathCount, f_greatestLength, f_worstTime, f_bestTime, f_worstCount, f_programBound, f_endingCount, f_chosen, f_time, a_kind, a_first, a_second, a_low, a_high, a_parent, a_pathsOf, a_lengthOf, a_choicesOf, a_stack, a_worstPath, a_sureness, a_mostMisses, a_mostHits, a_leastMisses, a_endings, a_runsHolding, a_rounds, pa, a_pathTop, a_cache, a_runMisses, a_runHits, a_table, a_before, a_behind) → wX_toNextPath_7 post f_setBits f_placeCount f_made f_height f_pathCount f_greatestLength f_worstTime f_bestTime f_worstCount f_programBound f_endingCount f_chosen f_time (d + 1) (nI d - 1) a_kind a_first a_second a_low a_high a_parent a_pathsOf a_lengthOf a_choicesOf a_stack a_worstPath a_sureness a_mostMisses a_mostHits a_leastMisses a_endings a_runsHolding a_rounds (fun k => if d ≤ k ∧ k < t then -4 else a_path k) a_pathTop a_cache a_runMisses a_runHits a_table a_before a_behind) ∧
        (∀ post : Int32 → SY → Prop, post 1 (h_sets, h_places, h_made, h_depth, h_size, h_open, h_time, h_chosen, nI (s + 1), h_worst, h_best, h_worstRuns, h_worstChoices, h_ends, h_bound, h_under, h_back, b_sorts, b_lows, b_highs, b_firsts, b_seconds, b_stack, b_pathsOf, b_lengthOf, b_choicesOf, b_todo, b_cache, upd b_path s (nI (a + 1)), b_tops, b_missed, b_struck, b_worstPath, b_mostMissed, b_mostStruck, b_leastMissed, b_held, b_contents, b_ages, b_phase, b_node, b_sum, b_saved, b_greatest, b_met, b_unsure) → wY_nextPath_7 post h_sets h_places h_made h_depth h_size h_open h_time h_chosen h_kept h_worst h_best h_worstRuns h_worstChoices h_ends h_bound h_under h_back b_sorts b_lows b_highs b_firsts b_seconds b_stack b_pathsOf b_lengthOf b_choicesOf b_todo b_cache b_path b_tops b_missed b_struck b_worstPath b_mostMissed b_mostStruck b_leastMissed b_held b_contents b_ages b_phase b_node b_sum b_saved b_greatest b_met b_unsure (d + 1) (nI d - 1))) := by
  intro d
  induction d with
  | zero =>
    intro _
    have e : nI 0 - 1 < 0 := by decide
    have e2 : ¬ (0 : Int32) ≤ nI 0 - 1 := by decide
    refine Or.inl ⟨fun k => if 0 ≤ k ∧ k < t then -4 else a_path k, fun k hk => ?_, fun post H => br_t e H, fun post H => br_t e (br_f e2 H)⟩
    dsimp only
    by_cases z : k < t
    · rw [if_pos z, if_pos ⟨Nat.zero_le _, z⟩]
    · rw [if_neg z, if_neg (fun y => z y.2)]
  | succ d ih =>
    intro hd
    obtain ⟨a, b, ab, b4, p1, p2, p3, p4⟩ := F d (by omega)
    have ed : nI (d + 1) - 1 = nI d := nI_pred d
    have c : (nI d).toNatClampNeg = d := nI_clamp (by omega)
    have i20 : vp_in (nI d) 20 := vp_in_nI (by omega) (by omega)
    have i24 : vp_in (nI d) 24 := vp_in_nI (by omega) (by omega)
    have np : ¬ nI d < 0 := nI_pos (by omega)
    have at0 : (fun k => if d + 1 ≤ k ∧ k < t then -4 else a_path k) d = a_path d := by
      show (if d + 1 ≤ d ∧ d < t then -4 else a_path d) = a_path d
      rw [if_neg (by omega)]
    rw [ed]
    by_cases z : a = b
    · have eu : upd (fun k => if d + 1 ≤ k ∧ k < t then -4 else a_path k) d (-4) = (fun k => if d ≤ k ∧ k < t then -4 else a_path k) := by
        funext k
        by_cases y : k = d
        · subst y; rw [us_s, if_pos (by omega)]
        · rw [us_n y]
          show (if d + 1 ≤ k ∧ k < t then -4 else a_path k) = if d ≤ k ∧ k < t then -4 else a_path k
          by_cases x : d + 1 ≤ k ∧ k < t
          · rw [if_pos x, if_pos (by omega)]
          · rw [if_neg x, if_neg (by omega)]
      have em : nI d + (-1) = nI d - 1 := by
        cases d with
        | zero => decide
        | succ d => rw [pk_m1, nI_pred]
      have sx : ∀ (post : Int32 → SX → Prop), wX_toNextPath_7 post f_setBits f_placeCount f_made f_height f_pathCount f_greatestLength f_worstTime f_bestTime f_worstCount f_programBound f_endingCount f_chosen f_time (d + 1) (nI d - 1) a_kind a_first a_second a_low a_high a_parent a_pathsOf a_lengthOf a_choicesOf a_stack a_worstPath a_sureness a_mostMisses a_mostHits a_leastMisses a_endings a_runsHolding a_rounds (fun k => if d ≤ k ∧ k < t then -4 else a_path k) a_pathTop a_cache a_runMisses a_runHits a_table a_before a_behind → wX_toNextPath_7 post f_setBits f_placeCount f_made f_height f_pathCount f_greatestLength f_worstTime f_bestTime f_worstCount f_programBound f_endingCount f_chosen f_time (d + 1 + 1) (nI d) a_kind a_first a_second a_low a_high a_parent a_pathsOf a_lengthOf a_choicesOf a_stack a_worstPath a_sureness a_mostMisses a_mostHits a_leastMisses a_endings a_runsHolding a_rounds (fun k => if d + 1 ≤ k ∧ k < t then -4 else a_path k) a_pathTop a_cache a_runMisses a_runHits a_table a_before a_behind := by
        intro post H
        refine br_f np ⟨i20, i20, ?_⟩
        rw [c, at0, p1, p3]
        refine br_t (nI_le (by omega) (by omega)) ⟨i20, ?_⟩
        rw [eu]
        exact nm_e (nm_r em H)
      have sy : ∀ (post : Int32 → SY → Prop), wY_nextPath_7 post h_sets h_places h_made h_depth h_size h_open h_time h_chosen h_kept h_worst h_best h_worstRuns h_worstChoices h_ends h_bound h_under h_back b_sorts b_lows b_highs b_firsts b_seconds b_stack b_pathsOf b_lengthOf b_choicesOf b_todo b_cache b_path b_tops b_missed b_struck b_worstPath b_mostMissed b_mostStruck b_leastMissed b_held b_contents b_ages b_phase b_node b_sum b_saved b_greatest b_met b_unsure (d + 1) (nI d - 1) → wY_nextPath_7 post h_sets h_places h_made h_depth h_size h_open h_time h_chosen h_kept h_worst h_best h_worstRuns h_worstChoices h_ends h_bound h_under h_back b_sorts b_lows b_highs b_firsts b_seconds b_stack b_pathsOf b_lengthOf b_choicesOf b_todo b_cache b_path b_tops b_missed b_struck b_worstPath b_mostMissed b_mostStruck b_leastMissed b_held b_contents b_ages b_phase b_node b_sum b_saved b_greatest b_met b_unsure (d + 1 + 1) (nI d) := by
        intro post H
        refine br_f np ⟨i24, i24, ?_⟩
        rw [c, p2, p4, z]
        exact br_t rfl (nm_r em H)
      rcases ih (by omega) with ⟨pa, h1, h2, h3⟩ | ⟨s, a', pa, h1, h2, h3, h4, h5, h6, h7⟩
      · exact Or.inl ⟨pa, h1, fun post H => sx post (h2 post H), fun post H => sy post (h3 post H)⟩
      · exact Or.inr ⟨s, a', pa, by omega, h2, h3, h4, h5, fun post H => sx post (h6 post H), fun post H => sy post (h7 post H)⟩
    · refine Or.inr ⟨d, a, upd (fun k => if d + 1 ≤ k ∧ k < t then -4 else a_path k) d (nI (a + 1)), by omega, p1, by omega, ?_, fun k => ?_, fun post H => ?_, fun post H => ?_⟩
      · rw [p1, p3]; exact nI_lt (by omega) (by omega)
      · by_cases y : k = d
        · subst y; rw [us_s, if_pos rfl]
        · rw [us_n y, if_neg y]
          show (if d + 1 ≤ k ∧ k < t then -4 else a_path k) = if d < k ∧ k < t then -4 else a_path k
          rfl
      · refine br_f np ⟨i20, i20, ?_⟩
        rw [c, at0, p1, p3]
        refine br_f (nI_ge (by omega) (by omega)) ⟨i20, i20, ?_⟩
        rw [nI_1]
        exact nm_e H
      · refine br_f np ⟨i24, i24, ?_⟩
        rw [c, p2, p4]
        refine br_f (by rw [nI_eq (by omega) (by omega)]; exact z) (br_t (nI_pos' (by omega)) ⟨i24, i24, ?_⟩)
        rw [c, p2, nI_1]
        exact nm_e (nm_r (nI_1 d) H)
