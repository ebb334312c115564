def tb_I (g : Nat → Nat → Nat) (root w N st : Nat) (at_ un bk : Int32) (rd tb bf be sn ag nd ph sm sv gr me us : Nat → Int32) : Prop :=
  ∃ (j n bs mm : Nat), fr_c g root w st rd bf be nd ph sm sv gr j n bs mm ∧ ag_R w tb ag ∧ sr_R g (root + 1) sn me us ∧ st + N ≤ 900000 ∧
   ((at_ = nI n ∧ un = nI (j + 1) ∧ nd j = nI n ∧ ph j = 0 ∧ tb 12 = nI bs ∧ bs ≤ 50 * st ∧ 40 * (g 8 n + mm) ≤ N) ∨
    (at_ = nI n ^^^ (-1) ∧ un = nI j ∧ (∃ k, bk = nI k ∧ tb 12 = nI (bs + k) ∧ bs + k ≤ 50 * st) ∧ 40 * mm + 1 + (root - n) ≤ N))
theorem xb_in {f_setBits : Int32} {f_placeCount : Int32} {f_made : Int32} {f_height : Int32} {f_pathCount : Int32} {f_greatestLength : Int32} {f_worstTime : Int32} {f_bestTime : Int32} {f_worstCount : Int32} {f_programBound : Int32} {f_endingCount : Int32} {f_chosen : Int32} {f_time : Int32} {a_kind : Nat → Int32} {a_first : Nat → Int32} {a_second : Nat → Int32} {a_low : Nat → Int32} {a_high : Nat → Int32} {a_parent : Nat → Int32} {a_pathsOf : Nat → Int32} {a_lengthOf : Nat → Int32} {a_choicesOf : Nat → Int32} {a_stack : Nat → Int32} {a_worstPath : Nat → Int32} {a_sureness : Nat → Int32} {a_mostMisses : Nat → Int32} {a_mostHits : Nat → Int32} {a_leastMisses : Nat → Int32} {a_endings : Nat → Int64} {a_runsHolding : Nat → Int32} {a_rounds : Nat → Int32} {a_path : Nat → Int32} {a_pathTop : Nat → Int32} {a_cache : Nat → Int32} {a_runMisses : Nat → Int32} {a_runHits : Nat → Int32} {a_table : Nat → Int32} {a_before : Nat → Int32} {a_behind : Nat → Int32} {root : Nat} {post : SX → Prop} {F n st : Nat} (hn : n < 18) (hr : root < 18) (hst : st < 1000000) (h : wpX_enterInTables (fun r u => match u with | (f_setBits, f_placeCount, f_made, f_height, f_pathCount, f_greatestLength, f_worstTime, f_bestTime, f_worstCount, f_programBound, f_endingCount, f_chosen, f_time, a_kind, a_first, a_second, a_low, a_high, a_parent, a_pathsOf, a_lengthOf, a_choicesOf, a_stack, a_worstPath, a_sureness, a_mostMisses, a_mostHits, a_leastMisses, a_endings, a_runsHolding, a_rounds, a_path, a_pathTop, a_cache, a_runMisses, a_runHits, a_table, a_before, a_behind) => ∀ x3 : Int32, x3 = nI st + 1 → wX_walkTables_36 post (nI root) F r x3 f_setBits f_placeCount f_made f_height f_pathCount f_greatestLength f_worstTime f_bestTime f_worstCount f_programBound f_endingCount f_chosen f_time a_kind a_first a_second a_low a_high a_parent a_pathsOf a_lengthOf a_choicesOf a_stack a_worstPath a_sureness a_mostMisses a_mostHits a_leastMisses a_endings a_runsHolding a_rounds a_path a_pathTop a_cache a_runMisses a_runHits a_table a_before a_behind) (f_setBits, f_placeCount, f_made, f_height, f_pathCount, f_greatestLength, f_worstTime, f_bestTime, f_worstCount, f_programBound, f_endingCount, f_chosen, f_time, a_kind, a_first, a_second, a_low, a_high, a_parent, a_pathsOf, a_lengthOf, a_choicesOf, a_stack, a_worstPath, a_sureness, a_mostMisses, a_mostHits, a_leastMisses, a_endings, a_runsHolding, a_rounds, a_path, a_pathTop, a_cache, a_runMisses, a_runHits, a_table, a_before, a_behind) (nI n)) : wX_walkTables_36 post (nI root) (F + 1) (nI n) (nI st) f_setBits f_placeCount f_made f_height f_pathCount f_greatestLength f_worstTime f_bestTime f_worstCount f_programBound f_endingCount f_chosen f_time a_kind a_first a_second a_low a_high a_parent a_pathsOf a_lengthOf a_choicesOf a_stack a_worstPath a_sureness a_mostMisses a_mostHits a_leastMisses a_endings a_runsHolding a_rounds a_path a_pathTop a_cache a_runMisses a_runHits a_table a_before a_behind :=
  br_f (cm_ne hn hr) (br_f (nI_ge (b := 1000000) hst (by omega)) (br_f (cm_pos n hn) h))
theorem xb_out {f_setBits : Int32} {f_placeCount : Int32} {f_made : Int32} {f_height : Int32} {f_pathCount : Int32} {f_greatestLength : Int32} {f_worstTime : Int32} {f_bestTime : Int32} {f_worstCount : Int32} {f_programBound : Int32} {f_endingCount : Int32} {f_chosen : Int32} {f_time : Int32} {a_kind : Nat → Int32} {a_first : Nat → Int32} {a_second : Nat → Int32} {a_low : Nat → Int32} {a_high : Nat → Int32} {a_parent : Nat → Int32} {a_pathsOf : Nat → Int32} {a_lengthOf : Nat → Int32} {a_choicesOf : Nat → Int32} {a_stack : Nat → Int32} {a_worstPath : Nat → Int32} {a_sureness : Nat → Int32} {a_mostMisses : Nat → Int32} {a_mostHits : Nat → Int32} {a_leastMisses : Nat → Int32} {a_endings : Nat → Int64} {a_runsHolding : Nat → Int32} {a_rounds : Nat → Int32} {a_path : Nat → Int32} {a_pathTop : Nat → Int32} {a_cache : Nat → Int32} {a_runMisses : Nat → Int32} {a_runHits : Nat → Int32} {a_table : Nat → Int32} {a_before : Nat → Int32} {a_behind : Nat → Int32} {root : Nat} {post : SX → Prop} {F n st : Nat} (hn : n < 18) (hr : root < 18) (hne : n ≠ root) (hst : st < 1000000) (h : wpX_leaveInTables (fun r u => match u with | (f_setBits, f_placeCount, f_made, f_height, f_pathCount, f_greatestLength, f_worstTime, f_bestTime, f_worstCount, f_programBound, f_endingCount, f_chosen, f_time, a_kind, a_first, a_second, a_low, a_high, a_parent, a_pathsOf, a_lengthOf, a_choicesOf, a_stack, a_worstPath, a_sureness, a_mostMisses, a_mostHits, a_leastMisses, a_endings, a_runsHolding, a_rounds, a_path, a_pathTop, a_cache, a_runMisses, a_runHits, a_table, a_before, a_behind) => ∀ x3 : Int32, x3 = nI st + 1 → wX_walkTables_36 post (nI root) F r x3 f_setBits f_placeCount f_made f_height f_pathCount f_greatestLength f_worstTime f_bestTime f_worstCount f_programBound f_endingCount f_chosen f_time a_kind a_first a_second a_low a_high a_parent a_pathsOf a_lengthOf a_choicesOf a_stack a_worstPath a_sureness a_mostMisses a_mostHits a_leastMisses a_endings a_runsHolding a_rounds a_path a_pathTop a_cache a_runMisses a_runHits a_table a_before a_behind) (f_setBits, f_placeCount, f_made, f_height, f_pathCount, f_greatestLength, f_worstTime, f_bestTime, f_worstCount, f_programBound, f_endingCount, f_chosen, f_time, a_kind, a_first, a_second, a_low, a_high, a_parent, a_pathsOf, a_lengthOf, a_choicesOf, a_stack, a_worstPath, a_sureness, a_mostMisses, a_mostHits, a_leastMisses, a_endings, a_runsHolding, a_rounds, a_path, a_pathTop, a_cache, a_runMisses, a_runHits, a_table, a_before, a_behind) (nI n)) : wX_walkTables_36 post (nI root) (F + 1) (nI n ^^^ (-1)) (nI st) f_setBits f_placeCount f_made f_height f_pathCount f_greatestLength f_worstTime f_bestTime f_worstCount f_programBound f_endingCount f_chosen f_time a_kind a_first a_second a_low a_high a_parent a_pathsOf a_lengthOf a_choicesOf a_stack a_worstPath a_sureness a_mostMisses a_mostHits a_leastMisses a_endings a_runsHolding a_rounds a_path a_pathTop a_cache a_runMisses a_runHits a_table a_before a_behind := by
  refine br_f (fun e => hne (cm_eq hn hr e)) (br_f (nI_ge (b := 1000000) hst (by omega)) (br_t (cm_neg n hn) ?_))
  rw [cm_cm n hn]
  exact h
set_option maxHeartbeats 8000000 in
theorem tb_all {g : Nat → Nat → Nat} {root w s : Nat} {f_setBits : Int32} {f_placeCount : Int32} {f_made : Int32} {f_height : Int32} {f_pathCount : Int32} {f_greatestLength : Int32} {f_worstTime : Int32} {f_bestTime : Int32} {f_worstCount : Int32} {f_programBound : Int32} {f_endingCount : Int32} {f_chosen : Int32} {f_time : Int32} {a_kind : Nat → Int32} {a_first : Nat → Int32} {a_second : Nat → Int32} {a_low : Nat → Int32} {a_high : Nat → Int32} {a_parent : Nat → Int32} {a_pathsOf : Nat → Int32} {a_lengthOf : Nat → Int32} {a_choicesOf : Nat → Int32} {a_stack : Nat → Int32} {a_worstPath : Nat → Int32} {a_mostMisses : Nat → Int32} {a_mostHits : Nat → Int32} {a_leastMisses : Nat → Int32} {a_endings : Nat → Int64} {a_runsHolding : Nat → Int32} {a_path : Nat → Int32} {a_pathTop : Nat → Int32} {a_cache : Nat → Int32} {a_runMisses : Nat → Int32} {a_runHits : Nat → Int32} {h_sets : Int32} {h_places : Int32} {h_made : Int32} {h_depth : Int32} {h_size : Int32} {h_bound : Int32} {b_sorts : Nat → Int32} {b_lows : Nat → Int32} {b_highs : Nat → Int32} {b_firsts : Nat → Int32} {b_seconds : Nat → Int32} {b_stack : Nat → Int32} {b_pathsOf : Nat → Int32} {b_lengthOf : Nat → Int32} {b_choicesOf : Nat → Int32}
    (T : pg_t g (root + 1)) (hr : root < 18) (hw0 : 0 < w) (hw : w ≤ 4) (hs0 : 0 < s) (hs : s ≤ 4) (hb : ∀ x y, x < 12 → y < 12 → ((nI x &&& f_setBits) = (nI y &&& f_setBits) ↔ x % s = y % s))
    (hpc : f_placeCount = nI w) (hsets : h_sets = nI s) (hpl : h_places = nI w)
    (XT : ∀ n, n ≤ root → xt_n g a_kind a_first a_second a_low a_high a_parent n) (YT : ∀ n, n ≤ root → yt_n g 0 b_sorts b_lows b_highs b_firsts b_seconds n) :
    ∀ (N st : Nat) (at_ h_under h_back : Int32) (a_rounds a_table a_before a_behind a_sureness b_ages b_node b_phase b_sum b_saved b_greatest b_met b_unsure : Nat → Int32),
      tb_I g root w N st at_ h_under h_back a_rounds a_table a_before a_behind a_sureness b_ages b_node b_phase b_sum b_saved b_greatest b_met b_unsure →
      tb_G g root w f_setBits f_placeCount f_made f_height f_pathCount f_greatestLength f_worstTime f_bestTime f_worstCount f_programBound f_endingCount f_chosen f_time a_kind a_first a_second a_low a_high a_parent a_pathsOf a_lengthOf a_choicesOf a_stack a_worstPath a_sureness a_mostMisses a_mostHits a_leastMisses a_endings a_runsHolding a_rounds a_path a_pathTop a_cache a_runMisses a_runHits a_table a_before a_behind h_sets h_places h_made h_depth h_size h_bound h_under h_back b_sorts b_lows b_highs b_firsts b_seconds b_stack b_pathsOf b_lengthOf b_choicesOf b_ages b_phase b_node b_sum b_saved b_greatest b_met b_unsure at_ st := by
  intro N
  induction N with
  | zero =>
    intro st at_ h_under h_back a_rounds a_table a_before a_behind a_sureness b_ages b_node b_phase b_sum b_saved b_greatest b_met b_unsure H
    exfalso
    obtain ⟨j, n, bs, mm, C, A, S, hst, ⟨-, -, -, -, -, -, h⟩ | ⟨-, -, -, h⟩⟩ := H
    · have := pg_M1 (T n (by have := fr_le C; omega))
      omega
    · omega
  | succ N ih =>
    intro st at_ h_under h_back a_rounds a_table a_before a_behind a_sureness b_ages b_node b_phase b_sum b_saved b_greatest b_met b_unsure H
    obtain ⟨j, n, bs, mm, C, A, S, hst, P⟩ := H
    have hnj := fr_le C
    have hn : n < 18 := by omega
    have hnr : n ≤ root := by omega
    have hj20 : j < 20 := by omega
    have hj21 : j + 1 < 20 := by omega
    rcases P with ⟨e1, e2, e3, e4, e5, e6, hN⟩ | ⟨e1, e2, ⟨bk, e3, e4, e5⟩, hN⟩
    · subst e1 e2
      have Pg := T n (by omega)
      obtain ⟨x1, x2, x3, x4, x5, x6⟩ := XT n hnr
      obtain ⟨y1, y2, y3, y4, y5⟩ := YT n hnr
      rw [Nat.zero_add] at y1 y2 y3 y4 y5
      have hk : b_sorts n = 0 ∨ b_sorts n = 1 ∨ b_sorts n = 2 ∨ b_sorts n = 3 ∨ b_sorts n = 4 := by
        rw [y1]
        have : ∀ k, k ≤ 4 → nI k = 0 ∨ nI k = 1 ∨ nI k = 2 ∨ nI k = 3 ∨ nI k = 4 := by decide
        exact this _ (pg_kd Pg)
      obtain ⟨-, -, k | k | k | k | k⟩ := Pg
      · obtain ⟨k0, k1, -, -, -, -, -, -, km⟩ := k
        rw [k0] at x1 y1
        have yl := y2 (by omega)
        obtain ⟨am, a, ha, hag⟩ := A (g 1 n) k1
        have hagx : a_table (g 1 n) = nI a := by rw [am]; exact hag
        have okA : ∀ v : Int32, ag_R w (upd (ac_a s (g 1 n) a_table) 12 v) (ac_a s (g 1 n) b_ages) := by
          intro v m hm
          rw [us_n (by omega)]
          exact ⟨ac_eq k1 (fun l hl => (A l hl).1) m hm, ac_ok hw k1 (fun l hl => (A l hl).2) m hm⟩
        by_cases z : a < w
        · refine tb_step (at2 := nI n ^^^ (-1)) (rd := a_rounds) (tb := upd (ac_a s (g 1 n) a_table) 12 (nI (bs + 1))) (bf := a_before) (be := a_behind) (sn := if a_sureness n = 2 then upd a_sureness n 1 else a_sureness) (un := nI j) (bk := nI 1) (ag := ac_a s (g 1 n) b_ages) (nd := b_node) (ph := b_phase) (sm := b_sum) (sv := b_saved) (gr := b_greatest) (me := upd b_met n 1) (us := b_unsure) (fun post F h => xb_in hn hr (by omega) ?_) (fun h_open h_time h_chosen h_kept h_worst h_best h_worstRuns h_worstChoices h_ends b_todo b_path b_tops b_cache b_missed b_struck b_worstPath b_mostMissed b_mostStruck b_leastMissed b_held b_contents post F h => yf_go (h_under := 0) hn hj20 e3 (fun _ => ?_) (fun y => absurd y (by rw [y1]; decide)) (fun y => absurd y (by rw [y1]; decide)) (fun y => absurd y (by rw [y1]; decide)) (fun y => absurd y (by rw [y1]; decide)) hk) (ih _ _ _ _ _ _ _ _ _ _ _ _ _ _ _ _ _ ⟨j, n, bs, mm, fr_upd (by omega) C (fun _ _ => rfl) (fun _ _ => ⟨rfl, rfl⟩) (fun _ _ => ⟨rfl, rfl, rfl⟩) (fun _ _ => ⟨rfl, rfl⟩), okA _, sr_hit S (by omega) hn k0, by omega, Or.inr ⟨rfl, rfl, ⟨1, rfl, us_s, by omega⟩, by omega⟩⟩)
          · refine xv_acc (s := s) hn x1 k1 hb x2 (fun _ => nm_r (nI_1 st) ?_) (fun y => absurd y (by rw [hpc, hagx]; exact nI_ge z (by omega)))
            rw [e5, nI_1]
            exact h
          · rw [yl]
            refine yj_acc k1 hn hs0 hs hw hsets hpl hag ha (fun _ => ?_) (fun y => absurd z y)
            rw [nI_pred]
            exact h
        · have e10 : nI bs + 10 = nI (bs + 10) := nI_add bs 10
          refine tb_step (at2 := nI n ^^^ (-1)) (rd := a_rounds) (tb := upd (ac_a s (g 1 n) a_table) 12 (nI (bs + 10))) (bf := a_before) (be := a_behind) (sn := upd a_sureness n 0) (un := nI j) (bk := nI 10) (ag := ac_a s (g 1 n) b_ages) (nd := b_node) (ph := b_phase) (sm := b_sum) (sv := b_saved) (gr := b_greatest) (me := upd b_met n 1) (us := upd b_unsure n 1) (fun post F h => xb_in hn hr (by omega) ?_) (fun h_open h_time h_chosen h_kept h_worst h_best h_worstRuns h_worstChoices h_ends b_todo b_path b_tops b_cache b_missed b_struck b_worstPath b_mostMissed b_mostStruck b_leastMissed b_held b_contents post F h => yf_go (h_under := 0) hn hj20 e3 (fun _ => ?_) (fun y => absurd y (by rw [y1]; decide)) (fun y => absurd y (by rw [y1]; decide)) (fun y => absurd y (by rw [y1]; decide)) (fun y => absurd y (by rw [y1]; decide)) hk) (ih _ _ _ _ _ _ _ _ _ _ _ _ _ _ _ _ _ ⟨j, n, bs, mm, fr_upd (by omega) C (fun _ _ => rfl) (fun _ _ => ⟨rfl, rfl⟩) (fun _ _ => ⟨rfl, rfl, rfl⟩) (fun _ _ => ⟨rfl, rfl⟩), okA _, sr_miss S (by omega) hn k0, by omega, Or.inr ⟨rfl, rfl, ⟨10, rfl, us_s, by omega⟩, by omega⟩⟩)
          · refine xv_acc (s := s) hn x1 k1 hb x2 (fun y => absurd (by rw [hpc, hagx]; exact nI_le (by omega) (by omega)) y) (fun _ => nm_r (nI_1 st) ?_)
            rw [e5, e10]
            exact h
          · rw [yl]
            refine yj_acc k1 hn hs0 hs hw hsets hpl hag ha (fun y => absurd y z) (fun _ => ?_)
            rw [nI_pred]
            exact h
      · obtain ⟨k0, k1, -, -, -, -, -, -, km⟩ := k
        rw [k0] at x1 y1
        have yl := y2 (by omega)
        refine tb_step (at2 := nI n ^^^ (-1)) (rd := a_rounds) (tb := upd a_table 12 (nI (bs + g 1 n))) (bf := a_before) (be := a_behind) (sn := a_sureness) (un := nI j) (bk := nI (g 1 n)) (ag := b_ages) (nd := b_node) (ph := b_phase) (sm := b_sum) (sv := b_saved) (gr := b_greatest) (me := b_met) (us := b_unsure) (fun post F h => xb_in hn hr (by omega) ?_) (fun h_open h_time h_chosen h_kept h_worst h_best h_worstRuns h_worstChoices h_ends b_todo b_path b_tops b_cache b_missed b_struck b_worstPath b_mostMissed b_mostStruck b_leastMissed b_held b_contents post F h => yf_go (h_under := 0) hn hj20 e3 (fun y => absurd y (by rw [y1]; decide)) (fun _ => ?_) (fun y => absurd y (by rw [y1]; decide)) (fun y => absurd y (by rw [y1]; decide)) (fun y => absurd y (by rw [y1]; decide)) hk) (ih _ _ _ _ _ _ _ _ _ _ _ _ _ _ _ _ _ ⟨j, n, bs, mm, fr_upd (by omega) C (fun _ _ => rfl) (fun _ _ => ⟨rfl, rfl⟩) (fun _ _ => ⟨rfl, rfl, rfl⟩) (fun _ _ => ⟨rfl, rfl⟩), fun m hm => by rw [us_n (by omega)]; exact A m hm, S, by omega, Or.inr ⟨rfl, rfl, ⟨g 1 n, rfl, us_s, by omega⟩, by omega⟩⟩)
        · refine xv_work hn x1 (nm_r (nI_1 st) ?_)
          rw [e5, x2, nI_add]
          exact h
        · rw [yl]
          exact h
      · obtain ⟨k0, k1, k2, -, -, -, -, -, -, -, km⟩ := k
        rw [k0] at x1 y1
        have yf := y3 (by omega)
        refine tb_step (at2 := nI (g 1 n)) (rd := a_rounds) (tb := a_table) (bf := a_before) (be := a_behind) (sn := a_sureness) (un := nI (j + 1 + 1)) (bk := h_back) (ag := b_ages) (nd := upd b_node (j + 1) (b_firsts n)) (ph := upd (upd b_phase j (b_phase j + 1)) (j + 1) 0) (sm := b_sum) (sv := b_saved) (gr := b_greatest) (me := b_met) (us := b_unsure) (fun post F h => xb_in hn hr (by omega) ?_) (fun h_open h_time h_chosen h_kept h_worst h_best h_worstRuns h_worstChoices h_ends b_todo b_path b_tops b_cache b_missed b_struck b_worstPath b_mostMissed b_mostStruck b_leastMissed b_held b_contents post F h => yf_go (h_under := 0) hn hj20 e3 (fun y => absurd y (by rw [y1]; decide)) (fun y => absurd y (by rw [y1]; decide)) (fun _ => ?_) (fun y => absurd y (by rw [y1]; decide)) (fun y => absurd y (by rw [y1]; decide)) hk) (ih _ _ _ _ _ _ _ _ _ _ _ _ _ _ _ _ _ ⟨j + 1, g 1 n, bs, g 8 (g 2 n) + mm, ⟨n, bs, mm, by omega, hnr, fr_upd (by omega) C (fun _ _ => rfl) (fun _ _ => ⟨rfl, rfl⟩) (fun i hi => ⟨us_n (by omega), by rw [us_n (by omega), us_n (by omega)], rfl⟩) (fun _ _ => ⟨rfl, rfl⟩), by rw [us_n (by omega)]; exact e3, Nat.le_refl _, Or.inl ⟨k0, rfl, by rw [us_n (by omega), us_s, e4]; rfl, rfl, rfl⟩⟩, A, S, by omega, Or.inl ⟨rfl, rfl, by rw [us_s, yf], us_s, e5, by omega, by omega⟩⟩)
        · refine xv_seq hn x1 (nm_r (nI_1 st) ?_)
          rw [x2]
          exact h
        · exact yg_seq (h_under := 0) hn hj21 (fun _ => h) (fun y => absurd y (by rw [e4]; decide)) (fun y => absurd e4 y)
      · obtain ⟨k0, k1, k2, -, -, -, -, -, -, -, km⟩ := k
        rw [k0] at x1 y1
        have yf := y3 (by omega)
        refine tb_step (at2 := nI (g 1 n)) (rd := a_rounds) (tb := a_table) (bf := sr_f (n * 13) a_table a_before 13) (be := sr_f (n * 13) (fun _ => 0) a_behind 13) (sn := a_sureness) (un := nI (j + 1 + 1)) (bk := h_back) (ag := b_ages) (nd := upd b_node (j + 1) (b_firsts n)) (ph := upd (upd b_phase j (b_phase j + 1)) (j + 1) 0) (sm := b_sum) (sv := sr_f (12 * j) b_ages b_saved 12) (gr := b_greatest) (me := b_met) (us := b_unsure) (fun post F h => xb_in hn hr (by omega) ?_) (fun h_open h_time h_chosen h_kept h_worst h_best h_worstRuns h_worstChoices h_ends b_todo b_path b_tops b_cache b_missed b_struck b_worstPath b_mostMissed b_mostStruck b_leastMissed b_held b_contents post F h => yf_go (h_under := 0) hn hj20 e3 (fun y => absurd y (by rw [y1]; decide)) (fun y => absurd y (by rw [y1]; decide)) (fun y => absurd y (by rw [y1]; decide)) (fun _ => ?_) (fun y => absurd y (by rw [y1]; decide)) hk) (ih _ _ _ _ _ _ _ _ _ _ _ _ _ _ _ _ _ ⟨j + 1, g 1 n, bs, g 8 (g 2 n) + mm, ⟨n, bs, mm, by omega, hnr, fr_upd (by omega) C (fun _ _ => rfl) (fun x hx => ⟨sr_out (by omega), sr_out (by omega)⟩) (fun i hi => ⟨us_n (by omega), by rw [us_n (by omega), us_n (by omega)], rfl⟩) (fun x hx => ⟨sr_out (by omega), rfl⟩), by rw [us_n (by omega)]; exact e3, Nat.le_refl _, Or.inr (Or.inr (Or.inl ⟨k0, rfl, by rw [us_n (by omega), us_s, e4]; rfl, rfl, rfl, fun m hm => by rw [sr_in (by omega), sr_in hm]; exact A m hm, by rw [sr_in (by omega)]; exact e5, fun x hx => sr_in hx⟩))⟩, A, S, by omega, Or.inl ⟨rfl, rfl, by rw [us_s, yf], us_s, e5, by omega, by omega⟩⟩)
        · refine xv_if hn x1 (nm_r (nI_1 st) ?_)
          rw [x2]
          exact h
        · exact yg_if (h_under := 0) hn hj21 (fun _ => h) (fun y => absurd y (by rw [e4]; decide)) (fun y => absurd e4 y)
      · obtain ⟨k0, k1, -, kl, kh, -, -, -, km⟩ := k
        rw [k0] at x1 y1
        have yf := y3 (by omega)
        obtain ⟨yl, yh⟩ := y5 k0
        have hz : fr_z (sr_f (n * 13) (fun _ => 0) a_behind 13) n := fun x hx => sr_in hx
        have ex : ∃ be' gr' : Nat → Int32, ((g 3 n ≤ 0 ∧ be' = sr_f (n * 13) (fun x => ix_x (a_table x) (sr_f (n * 13) (fun _ => 0) a_behind 13 (n * 13 + x))) (sr_f (n * 13) (fun _ => 0) a_behind 13) 13) ∨ (0 < g 3 n ∧ be' = sr_f (n * 13) (fun _ => 0) a_behind 13)) ∧ ((0 < g 3 n ∧ gr' = b_greatest) ∨ (0 = g 3 n ∧ gr' = sr_f (12 * j) b_ages b_greatest 12) ∨ (g 3 n < 0 ∧ gr' = sr_f (12 * j) (fun x => ix_x (b_greatest (12 * j + x)) (b_ages x)) b_greatest 12)) ∧
            ((g 3 n < 1 ∧ fr_r w be' gr' n j ∧ be' (n * 13 + 12) = nI bs) ∨ (1 ≤ g 3 n ∧ fr_z be' n)) ∧ (∀ x, (n + 1) * 13 ≤ x → be' x = a_behind x) ∧ (∀ x, x < 12 * j → gr' x = b_greatest x) := by
          by_cases z : g 3 n = 0
          · refine ⟨sr_f (n * 13) (fun x => ix_x (a_table x) (sr_f (n * 13) (fun _ => 0) a_behind 13 (n * 13 + x))) (sr_f (n * 13) (fun _ => 0) a_behind 13) 13, sr_f (12 * j) b_ages b_greatest 12, Or.inl ⟨by omega, rfl⟩, Or.inr (Or.inl ⟨by omega, rfl⟩), Or.inl ⟨by omega, rr_rz hw A hz, rr_z hz (by omega) (by omega) e5⟩, fun x hx => by rw [sr_out (by omega), sr_out (by omega)], fun x hx => sr_out (by omega)⟩
          · exact ⟨sr_f (n * 13) (fun _ => 0) a_behind 13, b_greatest, Or.inr ⟨by omega, rfl⟩, Or.inl ⟨by omega, rfl⟩, Or.inr ⟨by omega, hz⟩, fun x hx => sr_out (by omega), fun x hx => rfl⟩
        obtain ⟨be', gr', b1, b2, b3, b4, b5⟩ := ex
        by_cases z : 0 < g 4 n
        · have me : g 8 (g 1 n) + (g 4 n - 1) * g 8 (g 1 n) = g 4 n * g 8 (g 1 n) := by
            obtain ⟨q, hq⟩ : ∃ q, g 4 n = q + 1 := ⟨g 4 n - 1, by omega⟩
            rw [hq, Nat.add_sub_cancel, Nat.succ_mul, Nat.add_comm]
          refine tb_step (at2 := nI (g 1 n)) (rd := upd (upd a_rounds n 0) n (nI (0 + 1))) (tb := a_table) (bf := a_before) (be := be') (sn := a_sureness) (un := nI (j + 1 + 1)) (bk := h_back) (ag := b_ages) (nd := upd b_node (j + 1) (b_firsts n)) (ph := upd (upd b_phase j (nI (0 + 1))) (j + 1) 0) (sm := upd b_sum j 0) (sv := b_saved) (gr := gr') (me := b_met) (us := b_unsure) (fun post F h => xb_in hn hr (by omega) ?_) (fun h_open h_time h_chosen h_kept h_worst h_best h_worstRuns h_worstChoices h_ends b_todo b_path b_tops b_cache b_missed b_struck b_worstPath b_mostMissed b_mostStruck b_leastMissed b_held b_contents post F h => yf_go (h_under := 0) hn hj20 e3 (fun y => absurd y (by rw [y1]; decide)) (fun y => absurd y (by rw [y1]; decide)) (fun y => absurd y (by rw [y1]; decide)) (fun y => absurd y (by rw [y1]; decide)) (fun _ => ?_) hk) (ih _ _ _ _ _ _ _ _ _ _ _ _ _ _ _ _ _ ⟨j + 1, g 1 n, bs, (g 4 n - 1) * g 8 (g 1 n) + mm, ⟨n, bs, mm, by omega, hnr, fr_upd (by omega) C (fun p hp => by rw [us_n (by omega), us_n (by omega)]) (fun x hx => ⟨rfl, b4 x hx⟩) (fun i hi => ⟨us_n (by omega), by rw [us_n (by omega), us_n (by omega)], us_n (by omega)⟩) (fun x hx => ⟨rfl, b5 x hx⟩), by rw [us_n (by omega)]; exact e3, Nat.le_refl _, Or.inr (Or.inr (Or.inr (Or.inr ⟨k0, rfl, 1, 0, by omega, by omega, us_s, by rw [us_n (by omega), us_s], us_s, rfl, rfl, ?_⟩)))⟩, A, S, by omega, Or.inl ⟨rfl, rfl, by rw [us_s, yf], us_s, e5, by omega, by omega⟩⟩)
          · refine xv_loop hn x1 (by omega) kh x3 x4 b1 (fun _ => nm_r (nI_1 st) ?_) (fun y => absurd z y)
            rw [x2]
            exact h
          · exact yg_loop (h_under := 0) (i := 0) hn hj21 (by omega) kh (by omega) yl yh e4 (Or.inl ⟨rfl, rfl⟩) b2 (fun _ => h) (fun y => absurd z y)
          · rcases b3 with ⟨c1, c2, c3⟩ | ⟨c1, c2⟩
            · exact Or.inl ⟨c1, c2, bs, Nat.le_refl _, c3⟩
            · exact Or.inr ⟨c1, c2⟩
        · have b3' : fr_r w be' gr' n j ∧ be' (n * 13 + 12) = nI bs := by
            rcases b3 with ⟨c1, c2, c3⟩ | ⟨c1, c2⟩
            · exact ⟨c2, c3⟩
            · omega
          refine tb_step (at2 := nI n ^^^ (-1)) (rd := upd a_rounds n 0) (tb := sw_f (fun x => be' (n * 13 + x)) a_table 13) (bf := a_before) (be := be') (sn := a_sureness) (un := nI j) (bk := 0) (ag := sw_f (fun x => gr' (12 * j + x)) b_ages 12) (nd := b_node) (ph := upd b_phase j (nI (0 + 1))) (sm := upd b_sum j 0) (sv := b_saved) (gr := gr') (me := b_met) (us := b_unsure) (fun post F h => xb_in hn hr (by omega) ?_) (fun h_open h_time h_chosen h_kept h_worst h_best h_worstRuns h_worstChoices h_ends b_todo b_path b_tops b_cache b_missed b_struck b_worstPath b_mostMissed b_mostStruck b_leastMissed b_held b_contents post F h => yf_go (h_under := 0) hn hj20 e3 (fun y => absurd y (by rw [y1]; decide)) (fun y => absurd y (by rw [y1]; decide)) (fun y => absurd y (by rw [y1]; decide)) (fun y => absurd y (by rw [y1]; decide)) (fun _ => ?_) hk) (ih _ _ _ _ _ _ _ _ _ _ _ _ _ _ _ _ _ ⟨j, n, bs, mm, fr_upd (by omega) C (fun p hp => us_n (by omega)) (fun x hx => ⟨rfl, b4 x hx⟩) (fun i hi => ⟨rfl, us_n (by omega), us_n (by omega)⟩) (fun x hx => ⟨rfl, b5 x hx⟩), ag_row b3'.1, S, by omega, Or.inr ⟨rfl, rfl, ⟨0, rfl, by rw [sw_lt (by omega)]; exact b3'.2, by omega⟩, by omega⟩⟩)
          · exact xv_loop hn x1 (by omega) kh x3 x4 b1 (fun y => absurd y z) (fun _ => nm_r (nI_1 st) h)
          · exact yg_loop (h_under := 0) (i := 0) hn hj21 (by omega) kh (by omega) yl yh e4 (Or.inl ⟨rfl, rfl⟩) b2 (fun y => absurd y z) (fun _ => h)
    · subst e1 e2 e3
      by_cases hroot : n = root
      · have hj0 : j = 0 ∧ bs = 0 := by
          cases j with
          | zero => exact ⟨rfl, C.2.1⟩
          | succ j => obtain ⟨p, -, -, h1, h2, -⟩ := C; omega
        obtain ⟨hj0, hbs⟩ := hj0
        subst hj0 hbs hroot
        rw [Nat.zero_add] at e4
        exact ⟨bk, a_rounds, a_table, a_before, a_behind, a_sureness, b_ages, b_node, b_phase, b_sum, b_saved, b_greatest, b_met, b_unsure, 1, 1, e4, S, fun post h => br_t rfl h, fun h_open h_time h_chosen h_kept h_worst h_best h_worstRuns h_worstChoices h_ends b_todo b_path b_tops b_cache b_missed b_struck b_worstPath b_mostMissed b_mostStruck b_leastMissed b_held b_contents post h => br_t (by decide) h⟩
      · cases j with
        | zero => exact absurd C.1 hroot
        | succ j =>
          obtain ⟨p, bs', mm', hnp, hpr, C', hnd, hbs, hc⟩ := C
          have hp : p < 18 := by omega
          have hj20 : j < 20 := by omega
          have hj21 : j + 1 < 20 := by omega
          obtain ⟨x1, x2, x3, x4, x5, x6⟩ := XT p hpr
          obtain ⟨y1, y2, y3, y4, y5⟩ := YT p hpr
          rw [Nat.zero_add] at y1 y2 y3 y4 y5
          have Pg := T p (by omega)
          have hk : b_sorts p = 0 ∨ b_sorts p = 1 ∨ b_sorts p = 2 ∨ b_sorts p = 3 ∨ b_sorts p = 4 := by
            rw [y1]
            have : ∀ k, k ≤ 4 → nI k = 0 ∨ nI k = 1 ∨ nI k = 2 ∨ nI k = 3 ∨ nI k = 4 := by decide
            exact this _ (pg_kd Pg)
          rcases hc with ⟨k0, kn, kp, kb, kmm⟩ | ⟨k0, kn, kp, ⟨q, kq, kb⟩, kmm⟩ | ⟨k0, kn, kp, kb, kmm, kr, kb12, kz⟩ | ⟨k0, kn, kp, kb, kmm, ⟨q, kq, kb12, kq50⟩, kr⟩ | ⟨k0, kn, i, q, ki1, kih, krd, kp, kq, kb, kmm, kc⟩
          · have hfs : g 1 p < g 2 p ∧ g 2 p < p := by obtain ⟨-, -, N | N | N | N | N⟩ := Pg <;> omega
            rw [k0] at x1 y1
            have ys := y4 (Or.inl k0)
            have xs := (x6 (Or.inl k0)).1
            have hpar := x5 (by omega)
            rw [← kn] at hpar x2
            subst kb kmm
            refine tb_step (at2 := nI (g 2 p)) (rd := a_rounds) (tb := a_table) (bf := a_before) (be := a_behind) (sn := a_sureness) (un := nI (j + 1 + 1)) (bk := nI bk) (ag := b_ages) (nd := upd b_node (j + 1) (b_seconds p)) (ph := upd (upd b_phase j (b_phase j + 1)) (j + 1) 0) (sm := upd b_sum j (nI bk)) (sv := b_saved) (gr := b_greatest) (me := b_met) (us := b_unsure) (fun post F h => xb_out hn hr hroot (by omega) ?_) (fun h_open h_time h_chosen h_kept h_worst h_best h_worstRuns h_worstChoices h_ends b_todo b_path b_tops b_cache b_missed b_struck b_worstPath b_mostMissed b_mostStruck b_leastMissed b_held b_contents post F h => yf_go (h_under := 0) hp hj20 hnd (fun y => absurd y (by rw [y1]; decide)) (fun y => absurd y (by rw [y1]; decide)) (fun _ => ?_) (fun y => absurd y (by rw [y1]; decide)) (fun y => absurd y (by rw [y1]; decide)) hk) (ih _ _ _ _ _ _ _ _ _ _ _ _ _ _ _ _ _ ⟨j + 1, g 2 p, bs + bk, mm', ⟨p, bs, mm', hfs.2, hpr, fr_upd (by omega) C' (fun _ _ => rfl) (fun _ _ => ⟨rfl, rfl⟩) (fun i hi => ⟨us_n (by omega), by rw [us_n (by omega), us_n (by omega)], us_n (by omega)⟩) (fun _ _ => ⟨rfl, rfl⟩), by rw [us_n (by omega)]; exact hnd, by omega, Or.inr (Or.inl ⟨k0, rfl, by rw [us_n (by omega), us_s, kp]; rfl, ⟨bk, us_s, rfl⟩, rfl⟩)⟩, A, S, by omega, Or.inl ⟨rfl, rfl, by rw [us_s, ys], us_s, e4, by omega, by omega⟩⟩)
            · refine xw_leave hn hp hpar (fun _ => ?_) (fun y => absurd x2.symm y)
              refine xw_22 hp (fun _ y => absurd y (by decide)) (fun _ _ => nm_r (nI_1 st) ?_) (fun y => absurd y (by rw [x1]; decide)) (fun y => absurd y (by rw [x1]; decide)) (fun y => absurd x1 y)
              rw [xs]
              exact h
            · exact yg_seq (h_under := 0) hp hj21 (fun y => absurd y (by rw [kp]; decide)) (fun _ => h) (fun _ y => absurd kp y)
          · have hfs : g 1 p < g 2 p ∧ g 2 p < p := by obtain ⟨-, -, N | N | N | N | N⟩ := Pg <;> omega
            rw [k0] at x1 y1
            have hpar := (x6 (Or.inl k0)).2
            rw [← kn] at hpar
            have hnf : ¬ nI n = a_first p := by rw [x2, nI_eq (by omega) (by omega)]; omega
            subst kb kmm
            have eb : b_sum j + nI bk = nI (q + bk) := by rw [kq, nI_add]
            refine tb_step (at2 := nI p ^^^ (-1)) (rd := a_rounds) (tb := a_table) (bf := a_before) (be := a_behind) (sn := a_sureness) (un := nI j) (bk := nI (q + bk)) (ag := b_ages) (nd := b_node) (ph := upd b_phase j (b_phase j + 1)) (sm := b_sum) (sv := b_saved) (gr := b_greatest) (me := b_met) (us := b_unsure) (fun post F h => xb_out hn hr hroot (by omega) ?_) (fun h_open h_time h_chosen h_kept h_worst h_best h_worstRuns h_worstChoices h_ends b_todo b_path b_tops b_cache b_missed b_struck b_worstPath b_mostMissed b_mostStruck b_leastMissed b_held b_contents post F h => yf_go (h_under := 0) hp hj20 hnd (fun y => absurd y (by rw [y1]; decide)) (fun y => absurd y (by rw [y1]; decide)) (fun _ => ?_) (fun y => absurd y (by rw [y1]; decide)) (fun y => absurd y (by rw [y1]; decide)) hk) (ih _ _ _ _ _ _ _ _ _ _ _ _ _ _ _ _ _ ⟨j, p, bs', mm, fr_upd (by omega) C' (fun _ _ => rfl) (fun _ _ => ⟨rfl, rfl⟩) (fun i hi => ⟨rfl, us_n (by omega), rfl⟩) (fun _ _ => ⟨rfl, rfl⟩), A, S, by omega, Or.inr ⟨rfl, rfl, ⟨q + bk, rfl, by rw [e4, Nat.add_assoc], by omega⟩, by omega⟩⟩)
            · refine xw_leave hn hp hpar (fun y => absurd y hnf) (fun _ => ?_)
              exact xw_22 hp (fun _ _ => nm_r (nI_1 st) h) (fun _ y => absurd rfl y) (fun y => absurd y (by rw [x1]; decide)) (fun y => absurd y (by rw [x1]; decide)) (fun y => absurd x1 y)
            · refine yg_seq (h_under := 0) hp hj21 (fun y => absurd y (by rw [kp]; decide)) (fun y => absurd y (by rw [kp]; decide)) (fun _ _ => ?_)
              rw [eb]
              exact h
          · have hfs : g 1 p < g 2 p ∧ g 2 p < p := by obtain ⟨-, -, N | N | N | N | N⟩ := Pg <;> omega
            rw [k0] at x1 y1
            have ys := y4 (Or.inr k0)
            have xs := (x6 (Or.inr k0)).1
            have hpar := x5 (by omega)
            rw [← kn] at hpar x2
            subst kb kmm
            refine tb_step (at2 := nI (g 2 p)) (rd := a_rounds) (tb := sw_f (fun x => a_before (p * 13 + x)) a_table 13) (bf := a_before) (be := sr_f (p * 13) (fun x => ix_x (a_table x) (a_behind (p * 13 + x))) a_behind 13) (sn := a_sureness) (un := nI (j + 1 + 1)) (bk := nI bk) (ag := sw_f (fun x => b_saved (12 * j + x)) b_ages 12) (nd := upd b_node (j + 1) (b_seconds p)) (ph := upd (upd b_phase j (b_phase j + 1)) (j + 1) 0) (sm := upd b_sum j (nI bk)) (sv := b_saved) (gr := sr_f (12 * j) b_ages b_greatest 12) (me := b_met) (us := b_unsure) (fun post F h => xb_out hn hr hroot (by omega) ?_) (fun h_open h_time h_chosen h_kept h_worst h_best h_worstRuns h_worstChoices h_ends b_todo b_path b_tops b_cache b_missed b_struck b_worstPath b_mostMissed b_mostStruck b_leastMissed b_held b_contents post F h => yf_go (h_under := 0) hp hj20 hnd (fun y => absurd y (by rw [y1]; decide)) (fun y => absurd y (by rw [y1]; decide)) (fun y => absurd y (by rw [y1]; decide)) (fun _ => ?_) (fun y => absurd y (by rw [y1]; decide)) hk) (ih _ _ _ _ _ _ _ _ _ _ _ _ _ _ _ _ _ ⟨j + 1, g 2 p, bs, mm', ⟨p, bs, mm', hfs.2, hpr, fr_upd (by omega) C' (fun _ _ => rfl) (fun x hx => ⟨rfl, sr_out (by omega)⟩) (fun i hi => ⟨us_n (by omega), by rw [us_n (by omega), us_n (by omega)], us_n (by omega)⟩) (fun x hx => ⟨rfl, sr_out (by omega)⟩), by rw [us_n (by omega)]; exact hnd, by omega, Or.inr (Or.inr (Or.inr (Or.inl ⟨k0, rfl, by rw [us_n (by omega), us_s, kp]; rfl, rfl, rfl, ⟨bk, us_s, rr_z kz (by omega) (by omega) e4, by omega⟩, rr_rz hw A kz⟩)))⟩, ag_row kr, S, by omega, Or.inl ⟨rfl, rfl, by rw [us_s, ys], us_s, by rw [sw_lt (by omega)]; exact kb12, by omega, by omega⟩⟩)
            · refine xw_leave hn hp hpar (fun _ => ?_) (fun y => absurd x2.symm y)
              refine xw_22 hp (fun y => absurd y (by rw [x1]; decide)) (fun y => absurd y (by rw [x1]; decide)) (fun _ y => absurd y (by decide)) (fun _ _ => nm_r (nI_1 st) ?_) (fun _ y => absurd x1 y)
              rw [xs]
              exact h
            · exact yg_if (h_under := 0) hp hj21 (fun y => absurd y (by rw [kp]; decide)) (fun _ => h) (fun _ y => absurd kp y)
          · have hfs : g 1 p < g 2 p ∧ g 2 p < p := by obtain ⟨-, -, N | N | N | N | N⟩ := Pg <;> omega
            rw [k0] at x1 y1
            have hpar := (x6 (Or.inr k0)).2
            rw [← kn] at hpar
            have hnf : ¬ nI n = a_first p := by rw [x2, nI_eq (by omega) (by omega)]; omega
            subst kb kmm
            have eb : ix_x (b_sum j) (nI bk) = nI (max q bk) := by rw [kq, ix_nat (by omega) (by omega)]
            have e12 : sr_f (p * 13) (fun x => ix_x (a_table x) (a_behind (p * 13 + x))) a_behind 13 (p * 13 + 12) = nI (bs + max q bk) := by
              rw [rr_m (by omega) (by omega) (by omega) e4 kb12]
              exact congrArg nI (by omega)
            have hrr := rr_rm hw A kr
            refine tb_step (at2 := nI p ^^^ (-1)) (rd := a_rounds) (tb := sw_f (fun x => sr_f (p * 13) (fun x => ix_x (a_table x) (a_behind (p * 13 + x))) a_behind 13 (p * 13 + x)) a_table 13) (bf := a_before) (be := sr_f (p * 13) (fun x => ix_x (a_table x) (a_behind (p * 13 + x))) a_behind 13) (sn := a_sureness) (un := nI j) (bk := nI (max q bk)) (ag := sw_f (fun x => sr_f (12 * j) (fun x => ix_x (b_greatest (12 * j + x)) (b_ages x)) b_greatest 12 (12 * j + x)) b_ages 12) (nd := b_node) (ph := upd b_phase j (b_phase j + 1)) (sm := b_sum) (sv := b_saved) (gr := sr_f (12 * j) (fun x => ix_x (b_greatest (12 * j + x)) (b_ages x)) b_greatest 12) (me := b_met) (us := b_unsure) (fun post F h => xb_out hn hr hroot (by omega) ?_) (fun h_open h_time h_chosen h_kept h_worst h_best h_worstRuns h_worstChoices h_ends b_todo b_path b_tops b_cache b_missed b_struck b_worstPath b_mostMissed b_mostStruck b_leastMissed b_held b_contents post F h => yf_go (h_under := 0) hp hj20 hnd (fun y => absurd y (by rw [y1]; decide)) (fun y => absurd y (by rw [y1]; decide)) (fun y => absurd y (by rw [y1]; decide)) (fun _ => ?_) (fun y => absurd y (by rw [y1]; decide)) hk) (ih _ _ _ _ _ _ _ _ _ _ _ _ _ _ _ _ _ ⟨j, p, bs, mm, fr_upd (by omega) C' (fun _ _ => rfl) (fun x hx => ⟨rfl, sr_out (by omega)⟩) (fun i hi => ⟨rfl, us_n (by omega), rfl⟩) (fun x hx => ⟨rfl, sr_out (by omega)⟩), ag_row hrr, S, by omega, Or.inr ⟨rfl, rfl, ⟨max q bk, rfl, by rw [sw_lt (by omega)]; exact e12, by omega⟩, by omega⟩⟩)
            · refine xw_leave hn hp hpar (fun y => absurd y hnf) (fun _ => ?_)
              exact xw_22 hp (fun y => absurd y (by rw [x1]; decide)) (fun y => absurd y (by rw [x1]; decide)) (fun _ _ => nm_r (nI_1 st) h) (fun _ y => absurd rfl y) (fun _ y => absurd x1 y)
            · refine yg_if (h_under := 0) hp hj21 (fun y => absurd y (by rw [kp]; decide)) (fun y => absurd y (by rw [kp]; decide)) (fun _ _ => ?_)
              rw [eb]
              exact h
          · have hfs : g 1 p < p ∧ g 3 p ≤ g 4 p ∧ g 4 p ≤ 4 := by obtain ⟨-, -, N | N | N | N | N⟩ := Pg <;> omega
            obtain ⟨hfp, hlh, hh4⟩ := hfs
            rw [k0] at x1 y1
            have yf := y3 (by omega)
            obtain ⟨yl, yh⟩ := y5 k0
            have hpar := x5 (by omega)
            rw [← kn] at hpar
            have xf := x2
            rw [← kn] at xf
            subst kb kmm
            have eb : b_sum j + nI bk = nI (q + bk) := by rw [kq, nI_add]
            have ex : ∃ be' gr' : Nat → Int32, ((g 3 p ≤ i ∧ be' = sr_f (p * 13) (fun x => ix_x (a_table x) (a_behind (p * 13 + x))) a_behind 13) ∨ (i < g 3 p ∧ be' = a_behind)) ∧ ((i < g 3 p ∧ gr' = b_greatest) ∨ (i = g 3 p ∧ gr' = sr_f (12 * j) b_ages b_greatest 12) ∨ (g 3 p < i ∧ gr' = sr_f (12 * j) (fun x => ix_x (b_greatest (12 * j + x)) (b_ages x)) b_greatest 12)) ∧
                ((g 3 p < i + 1 ∧ fr_r w be' gr' p j ∧ be' (p * 13 + 12) = nI (bs' + (q + bk))) ∨ (i + 1 ≤ g 3 p ∧ fr_z be' p)) ∧ (∀ x, (p + 1) * 13 ≤ x → be' x = a_behind x) ∧ (∀ x, x < 12 * j → gr' x = b_greatest x) := by
              rcases Nat.lt_trichotomy i (g 3 p) with z | z | z
              · have kz : fr_z a_behind p := by
                  rcases kc with ⟨c1, -⟩ | ⟨-, c2⟩
                  · omega
                  · exact c2
                exact ⟨a_behind, b_greatest, Or.inr ⟨z, rfl⟩, Or.inl ⟨z, rfl⟩, Or.inr ⟨by omega, kz⟩, fun _ _ => rfl, fun _ _ => rfl⟩
              · have kz : fr_z a_behind p := by
                  rcases kc with ⟨c1, -⟩ | ⟨-, c2⟩
                  · omega
                  · exact c2
                refine ⟨sr_f (p * 13) (fun x => ix_x (a_table x) (a_behind (p * 13 + x))) a_behind 13, sr_f (12 * j) b_ages b_greatest 12, Or.inl ⟨by omega, rfl⟩, Or.inr (Or.inl ⟨z, rfl⟩), Or.inl ⟨by omega, rr_rz hw A kz, ?_⟩, fun x hx => sr_out (by omega), fun x hx => sr_out (by omega)⟩
                rw [rr_z kz (by omega) (by omega) e4, Nat.add_assoc]
              · obtain ⟨c2, e, ce, c3⟩ : fr_r w a_behind b_greatest p j ∧ ∃ e, e ≤ bs' + q ∧ a_behind (p * 13 + 12) = nI e := by
                  rcases kc with ⟨c1, c2, c3⟩ | ⟨c1, -⟩
                  · exact ⟨c2, c3⟩
                  · omega
                refine ⟨sr_f (p * 13) (fun x => ix_x (a_table x) (a_behind (p * 13 + x))) a_behind 13, sr_f (12 * j) (fun x => ix_x (b_greatest (12 * j + x)) (b_ages x)) b_greatest 12, Or.inl ⟨by omega, rfl⟩, Or.inr (Or.inr ⟨z, rfl⟩), Or.inl ⟨by omega, rr_rm hw A c2, ?_⟩, fun x hx => sr_out (by omega), fun x hx => sr_out (by omega)⟩
                rw [rr_m (by omega) (by omega) (by omega) e4 c3]
                exact congrArg nI (by omega)
            obtain ⟨be', gr', b1, b2, b3, b4, b5⟩ := ex
            by_cases z : i < g 4 p
            · have me : g 8 (g 1 p) + (g 4 p - (i + 1)) * g 8 (g 1 p) = (g 4 p - i) * g 8 (g 1 p) := by
                obtain ⟨v, hv⟩ : ∃ v, g 4 p - i = v + 1 := ⟨g 4 p - i - 1, by omega⟩
                rw [hv, show g 4 p - (i + 1) = v by omega, Nat.succ_mul, Nat.add_comm]
              refine tb_step (at2 := nI (g 1 p)) (rd := upd a_rounds p (nI (i + 1))) (tb := a_table) (bf := a_before) (be := be') (sn := a_sureness) (un := nI (j + 1 + 1)) (bk := nI bk) (ag := b_ages) (nd := upd b_node (j + 1) (b_firsts p)) (ph := upd (upd b_phase j (nI (i + 1))) (j + 1) 0) (sm := upd b_sum j (nI (q + bk))) (sv := b_saved) (gr := gr') (me := b_met) (us := b_unsure) (fun post F h => xb_out hn hr hroot (by omega) ?_) (fun h_open h_time h_chosen h_kept h_worst h_best h_worstRuns h_worstChoices h_ends b_todo b_path b_tops b_cache b_missed b_struck b_worstPath b_mostMissed b_mostStruck b_leastMissed b_held b_contents post F h => yf_go (h_under := 0) hp hj20 hnd (fun y => absurd y (by rw [y1]; decide)) (fun y => absurd y (by rw [y1]; decide)) (fun y => absurd y (by rw [y1]; decide)) (fun y => absurd y (by rw [y1]; decide)) (fun _ => ?_) hk) (ih _ _ _ _ _ _ _ _ _ _ _ _ _ _ _ _ _ ⟨j + 1, g 1 p, bs' + (q + bk), (g 4 p - (i + 1)) * g 8 (g 1 p) + mm', ⟨p, bs', mm', hfp, hpr, fr_upd (by omega) C' (fun x hx => us_n (by omega)) (fun x hx => ⟨rfl, b4 x hx⟩) (fun i hi => ⟨us_n (by omega), by rw [us_n (by omega), us_n (by omega)], us_n (by omega)⟩) (fun x hx => ⟨rfl, b5 x hx⟩), by rw [us_n (by omega)]; exact hnd, by omega, Or.inr (Or.inr (Or.inr (Or.inr ⟨k0, rfl, i + 1, q + bk, by omega, by omega, us_s, by rw [us_n (by omega), us_s], us_s, rfl, rfl, ?_⟩)))⟩, A, S, by omega, Or.inl ⟨rfl, rfl, by rw [us_s, yf], us_s, by rw [e4, Nat.add_assoc], by omega, by omega⟩⟩)
              · refine xw_leave hn hp hpar (fun _ => ?_) (fun y => absurd xf.symm y)
                refine xw_22 hp (fun y => absurd y (by rw [x1]; decide)) (fun y => absurd y (by rw [x1]; decide)) (fun y => absurd y (by rw [x1]; decide)) (fun y => absurd y (by rw [x1]; decide)) (fun _ _ => ?_)
                refine xt_next (i := i) hp (by omega) hh4 (by omega) krd x3 x4 b1 (fun _ => nm_r (nI_1 st) ?_) (fun y => absurd z y)
                rw [x2]
                exact h
              · exact yg_loop (h_under := 0) (i := i) hp hj21 (by omega) hh4 (by omega) yl yh kp (Or.inr ⟨by omega, eb.symm⟩) b2 (fun _ => h) (fun y => absurd z y)
              · rcases b3 with ⟨c1, c2, c3⟩ | ⟨c1, c2⟩
                · exact Or.inl ⟨c1, c2, bs' + (q + bk), Nat.le_refl _, c3⟩
                · exact Or.inr ⟨c1, c2⟩
            · have b3' : fr_r w be' gr' p j ∧ be' (p * 13 + 12) = nI (bs' + (q + bk)) := by
                rcases b3 with ⟨c1, c2, c3⟩ | ⟨c1, c2⟩
                · exact ⟨c2, c3⟩
                · omega
              refine tb_step (at2 := nI p ^^^ (-1)) (rd := a_rounds) (tb := sw_f (fun x => be' (p * 13 + x)) a_table 13) (bf := a_before) (be := be') (sn := a_sureness) (un := nI j) (bk := nI (q + bk)) (ag := sw_f (fun x => gr' (12 * j + x)) b_ages 12) (nd := b_node) (ph := upd b_phase j (nI (i + 1))) (sm := upd b_sum j (nI (q + bk))) (sv := b_saved) (gr := gr') (me := b_met) (us := b_unsure) (fun post F h => xb_out hn hr hroot (by omega) ?_) (fun h_open h_time h_chosen h_kept h_worst h_best h_worstRuns h_worstChoices h_ends b_todo b_path b_tops b_cache b_missed b_struck b_worstPath b_mostMissed b_mostStruck b_leastMissed b_held b_contents post F h => yf_go (h_under := 0) hp hj20 hnd (fun y => absurd y (by rw [y1]; decide)) (fun y => absurd y (by rw [y1]; decide)) (fun y => absurd y (by rw [y1]; decide)) (fun y => absurd y (by rw [y1]; decide)) (fun _ => ?_) hk) (ih _ _ _ _ _ _ _ _ _ _ _ _ _ _ _ _ _ ⟨j, p, bs', mm', fr_upd (by omega) C' (fun _ _ => rfl) (fun x hx => ⟨rfl, b4 x hx⟩) (fun i hi => ⟨rfl, us_n (by omega), us_n (by omega)⟩) (fun x hx => ⟨rfl, b5 x hx⟩), ag_row b3'.1, S, by omega, Or.inr ⟨rfl, rfl, ⟨q + bk, rfl, by rw [sw_lt (by omega)]; exact b3'.2, by omega⟩, by omega⟩⟩)
              · refine xw_leave hn hp hpar (fun _ => ?_) (fun y => absurd xf.symm y)
                refine xw_22 hp (fun y => absurd y (by rw [x1]; decide)) (fun y => absurd y (by rw [x1]; decide)) (fun y => absurd y (by rw [x1]; decide)) (fun y => absurd y (by rw [x1]; decide)) (fun _ _ => ?_)
                exact xt_next (i := i) hp (by omega) hh4 (by omega) krd x3 x4 b1 (fun y => absurd y z) (fun _ => nm_r (nI_1 st) h)
              · exact yg_loop (h_under := 0) (i := i) hp hj21 (by omega) hh4 (by omega) yl yh kp (Or.inr ⟨by omega, eb.symm⟩) b2 (fun y => absurd y z) (fun _ => h)
