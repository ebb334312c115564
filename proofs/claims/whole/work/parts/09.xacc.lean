/-! X: an access to a line, in a run and in the tables -/
theorem um_u {P : (Nat → Int32) → Prop} {a : Nat → Int32} {x v : Int32} {n : Nat} (h : x.toNatClampNeg = n) (H : P (upd a n v)) : ∀ y, y = upd a x.toNatClampNeg v → P y := by
  intro y e
  rw [e, h]
  exact H
theorem xc_loopcache {f_setBits : Int32} {f_placeCount : Int32} {f_made : Int32} {f_height : Int32} {f_pathCount : Int32} {f_greatestLength : Int32} {f_worstTime : Int32} {f_bestTime : Int32} {f_worstCount : Int32} {f_programBound : Int32} {f_endingCount : Int32} {f_chosen : Int32} {f_time : Int32} {a_kind : Nat → Int32} {a_first : Nat → Int32} {a_second : Nat → Int32} {a_low : Nat → Int32} {a_high : Nat → Int32} {a_parent : Nat → Int32} {a_pathsOf : Nat → Int32} {a_lengthOf : Nat → Int32} {a_choicesOf : Nat → Int32} {a_stack : Nat → Int32} {a_worstPath : Nat → Int32} {a_sureness : Nat → Int32} {a_mostMisses : Nat → Int32} {a_mostHits : Nat → Int32} {a_leastMisses : Nat → Int32} {a_endings : Nat → Int64} {a_runsHolding : Nat → Int32} {a_rounds : Nat → Int32} {a_path : Nat → Int32} {a_pathTop : Nat → Int32} {a_cache : Nat → Int32} {a_runMisses : Nat → Int32} {a_runHits : Nat → Int32} {a_table : Nat → Int32} {a_before : Nat → Int32} {a_behind : Nat → Int32} {Q : Int32 → SX → Prop} {age : Int32} {s m : Nat} (hm : m < 12) (hb : ∀ x y, x < 12 → y < 12 → ((nI x &&& f_setBits) = (nI y &&& f_setBits) ↔ x % s = y % s))
    (Hh : ¬ f_placeCount ≤ age → Q 1 (f_setBits, f_placeCount, f_made, f_height, f_pathCount, f_greatestLength, f_worstTime, f_bestTime, f_worstCount, f_programBound, f_endingCount, f_chosen, f_time, a_kind, a_first, a_second, a_low, a_high, a_parent, a_pathsOf, a_lengthOf, a_choicesOf, a_stack, a_worstPath, a_sureness, a_mostMisses, a_mostHits, a_leastMisses, a_endings, a_runsHolding, a_rounds, a_path, a_pathTop, upd (sw_f (ac_f s m age a_cache) a_cache 12) m 0, a_runMisses, a_runHits, a_table, a_before, a_behind)) (Hm : f_placeCount ≤ age → Q 10 (f_setBits, f_placeCount, f_made, f_height, f_pathCount, f_greatestLength, f_worstTime, f_bestTime, f_worstCount, f_programBound, f_endingCount, f_chosen, f_time, a_kind, a_first, a_second, a_low, a_high, a_parent, a_pathsOf, a_lengthOf, a_choicesOf, a_stack, a_worstPath, a_sureness, a_mostMisses, a_mostHits, a_leastMisses, a_endings, a_runsHolding, a_rounds, a_path, a_pathTop, upd (sw_f (ac_f s m age a_cache) a_cache 12) m 0, a_runMisses, a_runHits, a_table, a_before, a_behind)) :
    ∀ d i, i + d = 12 → wX_accessAges__cache_7 Q (nI m) age f_setBits f_placeCount f_made f_height f_pathCount f_greatestLength f_worstTime f_bestTime f_worstCount f_programBound f_endingCount f_chosen f_time (d + 1) (nI i) a_kind a_first a_second a_low a_high a_parent a_pathsOf a_lengthOf a_choicesOf a_stack a_worstPath a_sureness a_mostMisses a_mostHits a_leastMisses a_endings a_runsHolding a_rounds a_path a_pathTop (sw_f (ac_f s m age a_cache) a_cache i) a_runMisses a_runHits a_table a_before a_behind := by
  have cm : (nI m).toNatClampNeg = m := nI_clamp (by omega)
  have im : vp_in (nI m) 12 := vp_in_nI (by omega) (by omega)
  intro d
  induction d with
  | zero =>
    intro i hi
    have hi : i = 12 := by omega
    subst hi
    refine br_t (by decide) ⟨im, um_u cm (br_c Hm Hh)⟩
  | succ d ih =>
    intro i hi
    have c : (nI i).toNatClampNeg = i := nI_clamp (by omega)
    have ii : vp_in (nI i) 12 := vp_in_nI (by omega) (by omega)
    have h12 : ¬ (12 : Int32) ≤ nI i := nI_ge (b := 12) (by omega) (by omega)
    by_cases e : i % s = m % s
    · have ev : sw_f (ac_f s m age a_cache) a_cache i (nI i).toNatClampNeg = a_cache i := by rw [c, sw_at]
      by_cases l : age ≤ a_cache i
      · have k : ac_f s m age a_cache i = a_cache i := by
          unfold ac_f; rw [if_neg (fun z => Int32.not_lt.mpr l z.2)]
        refine br_f h12 (br_t ((hb i m (by omega) hm).mpr e) ⟨ii, br_t (by rw [ev]; exact l) (nm_r (nI_1 i) ?_)⟩)
        rw [sw_k k]
        exact ih (i + 1) (by omega)
      · have k : sw_f (ac_f s m age a_cache) a_cache i (nI i).toNatClampNeg + 1 = ac_f s m age a_cache i := by
          rw [ev]; unfold ac_f; rw [if_pos ⟨e, Int32.not_le.mp l⟩]
        refine br_f h12 (br_t ((hb i m (by omega) hm).mpr e) ⟨ii, br_f (by rw [ev]; exact l) ⟨ii, ii, um_u c (nm_r (nI_1 i) ?_)⟩⟩)
        rw [sw_u k]
        exact ih (i + 1) (by omega)
    · have k : ac_f s m age a_cache i = a_cache i := by
        unfold ac_f; rw [if_neg (fun z => e z.1)]
      refine br_f h12 (br_f (fun z => e ((hb i m (by omega) hm).mp z)) (nm_r (nI_1 i) ?_))
      rw [sw_k k]
      exact ih (i + 1) (by omega)
theorem xc_acccache {f_setBits : Int32} {f_placeCount : Int32} {f_made : Int32} {f_height : Int32} {f_pathCount : Int32} {f_greatestLength : Int32} {f_worstTime : Int32} {f_bestTime : Int32} {f_worstCount : Int32} {f_programBound : Int32} {f_endingCount : Int32} {f_chosen : Int32} {f_time : Int32} {a_kind : Nat → Int32} {a_first : Nat → Int32} {a_second : Nat → Int32} {a_low : Nat → Int32} {a_high : Nat → Int32} {a_parent : Nat → Int32} {a_pathsOf : Nat → Int32} {a_lengthOf : Nat → Int32} {a_choicesOf : Nat → Int32} {a_stack : Nat → Int32} {a_worstPath : Nat → Int32} {a_sureness : Nat → Int32} {a_mostMisses : Nat → Int32} {a_mostHits : Nat → Int32} {a_leastMisses : Nat → Int32} {a_endings : Nat → Int64} {a_runsHolding : Nat → Int32} {a_rounds : Nat → Int32} {a_path : Nat → Int32} {a_pathTop : Nat → Int32} {a_cache : Nat → Int32} {a_runMisses : Nat → Int32} {a_runHits : Nat → Int32} {a_table : Nat → Int32} {a_before : Nat → Int32} {a_behind : Nat → Int32} {Q : Int32 → SX → Prop} {s m : Nat} (hm : m < 12) (hb : ∀ x y, x < 12 → y < 12 → ((nI x &&& f_setBits) = (nI y &&& f_setBits) ↔ x % s = y % s))
    (Hh : ¬ f_placeCount ≤ a_cache m → Q 1 (f_setBits, f_placeCount, f_made, f_height, f_pathCount, f_greatestLength, f_worstTime, f_bestTime, f_worstCount, f_programBound, f_endingCount, f_chosen, f_time, a_kind, a_first, a_second, a_low, a_high, a_parent, a_pathsOf, a_lengthOf, a_choicesOf, a_stack, a_worstPath, a_sureness, a_mostMisses, a_mostHits, a_leastMisses, a_endings, a_runsHolding, a_rounds, a_path, a_pathTop, ac_a s m a_cache, a_runMisses, a_runHits, a_table, a_before, a_behind)) (Hm : f_placeCount ≤ a_cache m → Q 10 (f_setBits, f_placeCount, f_made, f_height, f_pathCount, f_greatestLength, f_worstTime, f_bestTime, f_worstCount, f_programBound, f_endingCount, f_chosen, f_time, a_kind, a_first, a_second, a_low, a_high, a_parent, a_pathsOf, a_lengthOf, a_choicesOf, a_stack, a_worstPath, a_sureness, a_mostMisses, a_mostHits, a_leastMisses, a_endings, a_runsHolding, a_rounds, a_path, a_pathTop, ac_a s m a_cache, a_runMisses, a_runHits, a_table, a_before, a_behind)) : wpX_accessAges__cache Q (f_setBits, f_placeCount, f_made, f_height, f_pathCount, f_greatestLength, f_worstTime, f_bestTime, f_worstCount, f_programBound, f_endingCount, f_chosen, f_time, a_kind, a_first, a_second, a_low, a_high, a_parent, a_pathsOf, a_lengthOf, a_choicesOf, a_stack, a_worstPath, a_sureness, a_mostMisses, a_mostHits, a_leastMisses, a_endings, a_runsHolding, a_rounds, a_path, a_pathTop, a_cache, a_runMisses, a_runHits, a_table, a_before, a_behind) (nI m) := by
  have cm : (nI m).toNatClampNeg = m := nI_clamp (by omega)
  have im : vp_in (nI m) 12 := vp_in_nI (by omega) (by omega)
  have L := xc_loopcache (a_cache := a_cache) hm hb Hh Hm 12 0 (by omega)
  rw [sw_0] at L
  exact And.intro im (nm_r (congrArg a_cache cm) ⟨13, L⟩)
theorem xc_looptable {f_setBits : Int32} {f_placeCount : Int32} {f_made : Int32} {f_height : Int32} {f_pathCount : Int32} {f_greatestLength : Int32} {f_worstTime : Int32} {f_bestTime : Int32} {f_worstCount : Int32} {f_programBound : Int32} {f_endingCount : Int32} {f_chosen : Int32} {f_time : Int32} {a_kind : Nat → Int32} {a_first : Nat → Int32} {a_second : Nat → Int32} {a_low : Nat → Int32} {a_high : Nat → Int32} {a_parent : Nat → Int32} {a_pathsOf : Nat → Int32} {a_lengthOf : Nat → Int32} {a_choicesOf : Nat → Int32} {a_stack : Nat → Int32} {a_worstPath : Nat → Int32} {a_sureness : Nat → Int32} {a_mostMisses : Nat → Int32} {a_mostHits : Nat → Int32} {a_leastMisses : Nat → Int32} {a_endings : Nat → Int64} {a_runsHolding : Nat → Int32} {a_rounds : Nat → Int32} {a_path : Nat → Int32} {a_pathTop : Nat → Int32} {a_cache : Nat → Int32} {a_runMisses : Nat → Int32} {a_runHits : Nat → Int32} {a_table : Nat → Int32} {a_before : Nat → Int32} {a_behind : Nat → Int32} {Q : Int32 → SX → Prop} {age : Int32} {s m : Nat} (hm : m < 12) (hb : ∀ x y, x < 12 → y < 12 → ((nI x &&& f_setBits) = (nI y &&& f_setBits) ↔ x % s = y % s))
    (Hh : ¬ f_placeCount ≤ age → Q 1 (f_setBits, f_placeCount, f_made, f_height, f_pathCount, f_greatestLength, f_worstTime, f_bestTime, f_worstCount, f_programBound, f_endingCount, f_chosen, f_time, a_kind, a_first, a_second, a_low, a_high, a_parent, a_pathsOf, a_lengthOf, a_choicesOf, a_stack, a_worstPath, a_sureness, a_mostMisses, a_mostHits, a_leastMisses, a_endings, a_runsHolding, a_rounds, a_path, a_pathTop, a_cache, a_runMisses, a_runHits, upd (sw_f (ac_f s m age a_table) a_table 12) m 0, a_before, a_behind)) (Hm : f_placeCount ≤ age → Q 10 (f_setBits, f_placeCount, f_made, f_height, f_pathCount, f_greatestLength, f_worstTime, f_bestTime, f_worstCount, f_programBound, f_endingCount, f_chosen, f_time, a_kind, a_first, a_second, a_low, a_high, a_parent, a_pathsOf, a_lengthOf, a_choicesOf, a_stack, a_worstPath, a_sureness, a_mostMisses, a_mostHits, a_leastMisses, a_endings, a_runsHolding, a_rounds, a_path, a_pathTop, a_cache, a_runMisses, a_runHits, upd (sw_f (ac_f s m age a_table) a_table 12) m 0, a_before, a_behind)) :
    ∀ d i, i + d = 12 → wX_accessAges__table_7 Q (nI m) age f_setBits f_placeCount f_made f_height f_pathCount f_greatestLength f_worstTime f_bestTime f_worstCount f_programBound f_endingCount f_chosen f_time (d + 1) (nI i) a_kind a_first a_second a_low a_high a_parent a_pathsOf a_lengthOf a_choicesOf a_stack a_worstPath a_sureness a_mostMisses a_mostHits a_leastMisses a_endings a_runsHolding a_rounds a_path a_pathTop a_cache a_runMisses a_runHits (sw_f (ac_f s m age a_table) a_table i) a_before a_behind := by
  have cm : (nI m).toNatClampNeg = m := nI_clamp (by omega)
  have im : vp_in (nI m) 13 := vp_in_nI (by omega) (by omega)
  intro d
  induction d with
  | zero =>
    intro i hi
    have hi : i = 12 := by omega
    subst hi
    refine br_t (by decide) ⟨im, um_u cm (br_c Hm Hh)⟩
  | succ d ih =>
    intro i hi
    have c : (nI i).toNatClampNeg = i := nI_clamp (by omega)
    have ii : vp_in (nI i) 13 := vp_in_nI (by omega) (by omega)
    have h12 : ¬ (12 : Int32) ≤ nI i := nI_ge (b := 12) (by omega) (by omega)
    by_cases e : i % s = m % s
    · have ev : sw_f (ac_f s m age a_table) a_table i (nI i).toNatClampNeg = a_table i := by rw [c, sw_at]
      by_cases l : age ≤ a_table i
      · have k : ac_f s m age a_table i = a_table i := by
          unfold ac_f; rw [if_neg (fun z => Int32.not_lt.mpr l z.2)]
        refine br_f h12 (br_t ((hb i m (by omega) hm).mpr e) ⟨ii, br_t (by rw [ev]; exact l) (nm_r (nI_1 i) ?_)⟩)
        rw [sw_k k]
        exact ih (i + 1) (by omega)
      · have k : sw_f (ac_f s m age a_table) a_table i (nI i).toNatClampNeg + 1 = ac_f s m age a_table i := by
          rw [ev]; unfold ac_f; rw [if_pos ⟨e, Int32.not_le.mp l⟩]
        refine br_f h12 (br_t ((hb i m (by omega) hm).mpr e) ⟨ii, br_f (by rw [ev]; exact l) ⟨ii, ii, um_u c (nm_r (nI_1 i) ?_)⟩⟩)
        rw [sw_u k]
        exact ih (i + 1) (by omega)
    · have k : ac_f s m age a_table i = a_table i := by
        unfold ac_f; rw [if_neg (fun z => e z.1)]
      refine br_f h12 (br_f (fun z => e ((hb i m (by omega) hm).mp z)) (nm_r (nI_1 i) ?_))
      rw [sw_k k]
      exact ih (i + 1) (by omega)
theorem xc_acctable {f_setBits : Int32} {f_placeCount : Int32} {f_made : Int32} {f_height : Int32} {f_pathCount : Int32} {f_greatestLength : Int32} {f_worstTime : Int32} {f_bestTime : Int32} {f_worstCount : Int32} {f_programBound : Int32} {f_endingCount : Int32} {f_chosen : Int32} {f_time : Int32} {a_kind : Nat → Int32} {a_first : Nat → Int32} {a_second : Nat → Int32} {a_low : Nat → Int32} {a_high : Nat → Int32} {a_parent : Nat → Int32} {a_pathsOf : Nat → Int32} {a_lengthOf : Nat → Int32} {a_choicesOf : Nat → Int32} {a_stack : Nat → Int32} {a_worstPath : Nat → Int32} {a_sureness : Nat → Int32} {a_mostMisses : Nat → Int32} {a_mostHits : Nat → Int32} {a_leastMisses : Nat → Int32} {a_endings : Nat → Int64} {a_runsHolding : Nat → Int32} {a_rounds : Nat → Int32} {a_path : Nat → Int32} {a_pathTop : Nat → Int32} {a_cache : Nat → Int32} {a_runMisses : Nat → Int32} {a_runHits : Nat → Int32} {a_table : Nat → Int32} {a_before : Nat → Int32} {a_behind : Nat → Int32} {Q : Int32 → SX → Prop} {s m : Nat} (hm : m < 12) (hb : ∀ x y, x < 12 → y < 12 → ((nI x &&& f_setBits) = (nI y &&& f_setBits) ↔ x % s = y % s))
    (Hh : ¬ f_placeCount ≤ a_table m → Q 1 (f_setBits, f_placeCount, f_made, f_height, f_pathCount, f_greatestLength, f_worstTime, f_bestTime, f_worstCount, f_programBound, f_endingCount, f_chosen, f_time, a_kind, a_first, a_second, a_low, a_high, a_parent, a_pathsOf, a_lengthOf, a_choicesOf, a_stack, a_worstPath, a_sureness, a_mostMisses, a_mostHits, a_leastMisses, a_endings, a_runsHolding, a_rounds, a_path, a_pathTop, a_cache, a_runMisses, a_runHits, ac_a s m a_table, a_before, a_behind)) (Hm : f_placeCount ≤ a_table m → Q 10 (f_setBits, f_placeCount, f_made, f_height, f_pathCount, f_greatestLength, f_worstTime, f_bestTime, f_worstCount, f_programBound, f_endingCount, f_chosen, f_time, a_kind, a_first, a_second, a_low, a_high, a_parent, a_pathsOf, a_lengthOf, a_choicesOf, a_stack, a_worstPath, a_sureness, a_mostMisses, a_mostHits, a_leastMisses, a_endings, a_runsHolding, a_rounds, a_path, a_pathTop, a_cache, a_runMisses, a_runHits, ac_a s m a_table, a_before, a_behind)) : wpX_accessAges__table Q (f_setBits, f_placeCount, f_made, f_height, f_pathCount, f_greatestLength, f_worstTime, f_bestTime, f_worstCount, f_programBound, f_endingCount, f_chosen, f_time, a_kind, a_first, a_second, a_low, a_high, a_parent, a_pathsOf, a_lengthOf, a_choicesOf, a_stack, a_worstPath, a_sureness, a_mostMisses, a_mostHits, a_leastMisses, a_endings, a_runsHolding, a_rounds, a_path, a_pathTop, a_cache, a_runMisses, a_runHits, a_table, a_before, a_behind) (nI m) := by
  have cm : (nI m).toNatClampNeg = m := nI_clamp (by omega)
  have im : vp_in (nI m) 13 := vp_in_nI (by omega) (by omega)
  have L := xc_looptable (a_table := a_table) hm hb Hh Hm 12 0 (by omega)
  rw [sw_0] at L
  exact And.intro im (nm_r (congrArg a_table cm) ⟨13, L⟩)
