/-! X: making statements -/
theorem xm_nat {x : Nat} (hx : x < 2 ^ 31) : ix_n (nI x) 1000 = nI (min x 1000) := by
  rw [show (1000 : Int32) = nI 1000 from rfl]
  unfold ix_n
  by_cases h : 1000 ≤ x
  · rw [if_pos (nI_le h hx), Nat.min_eq_right h]
  · rw [if_neg (nI_ge (by omega) (by omega)), Nat.min_eq_left (by omega)]
theorem xm_nat2 {x : Nat} (hx : x < 2 ^ 31) : ix_n 1000 (nI x) = nI (min x 1000) := by
  rw [ix_c]; exact xm_nat hx
theorem xp_put {f_setBits : Int32} {f_placeCount : Int32} {f_pathCount : Int32} {f_greatestLength : Int32} {f_worstTime : Int32} {f_bestTime : Int32} {f_worstCount : Int32} {f_programBound : Int32} {f_endingCount : Int32} {f_chosen : Int32} {f_time : Int32} {a_kind : Nat → Int32} {a_first : Nat → Int32} {a_second : Nat → Int32} {a_low : Nat → Int32} {a_high : Nat → Int32} {a_parent : Nat → Int32} {a_pathsOf : Nat → Int32} {a_lengthOf : Nat → Int32} {a_choicesOf : Nat → Int32} {a_stack : Nat → Int32} {a_worstPath : Nat → Int32} {a_sureness : Nat → Int32} {a_mostMisses : Nat → Int32} {a_mostHits : Nat → Int32} {a_leastMisses : Nat → Int32} {a_endings : Nat → Int64} {a_runsHolding : Nat → Int32} {a_rounds : Nat → Int32} {a_path : Nat → Int32} {a_pathTop : Nat → Int32} {a_cache : Nat → Int32} {a_runMisses : Nat → Int32} {a_runHits : Nat → Int32} {a_table : Nat → Int32} {a_before : Nat → Int32} {a_behind : Nat → Int32} {post : Int32 → SX → Prop} {m h : Nat} {p0 p1 p2 : Int32} (hm : m < 18) (hh : h < 18)
    (H : post (nI m) (f_setBits, f_placeCount, nI (m + 1), nI (h + 1), f_pathCount, f_greatestLength, f_worstTime, f_bestTime, f_worstCount, f_programBound, f_endingCount, f_chosen, f_time, upd a_kind m p0, upd a_first m p1, upd a_second m p2, upd a_low m 0, upd a_high m 0, a_parent, a_pathsOf, a_lengthOf, a_choicesOf, upd a_stack h (nI m), a_worstPath, a_sureness, a_mostMisses, a_mostHits, a_leastMisses, a_endings, a_runsHolding, a_rounds, a_path, a_pathTop, a_cache, a_runMisses, a_runHits, a_table, a_before, a_behind)) : wpX_put post (f_setBits, f_placeCount, nI m, nI h, f_pathCount, f_greatestLength, f_worstTime, f_bestTime, f_worstCount, f_programBound, f_endingCount, f_chosen, f_time, a_kind, a_first, a_second, a_low, a_high, a_parent, a_pathsOf, a_lengthOf, a_choicesOf, a_stack, a_worstPath, a_sureness, a_mostMisses, a_mostHits, a_leastMisses, a_endings, a_runsHolding, a_rounds, a_path, a_pathTop, a_cache, a_runMisses, a_runHits, a_table, a_before, a_behind) p0 p1 p2 := by
  have c1 : (nI m).toNatClampNeg = m := nI_clamp (by omega)
  have c2 : (nI h).toNatClampNeg = h := nI_clamp (by omega)
  have i1 : vp_in (nI m) 18 := vp_in_nI hm (by omega)
  have i2 : vp_in (nI h) 18 := vp_in_nI hh (by omega)
  exact And.intro i1 (um_u c1 ⟨i1, um_u c1 ⟨i1, um_u c1 ⟨i1, um_u c1 ⟨i1, um_u c1 ⟨i2, um_u c2 (nm_r (nI_1 h) (nm_r (nI_1 m) H))⟩⟩⟩⟩⟩)
theorem xm_meas {f_setBits : Int32} {f_placeCount : Int32} {f_made : Int32} {f_height : Int32} {f_pathCount : Int32} {f_greatestLength : Int32} {f_worstTime : Int32} {f_bestTime : Int32} {f_worstCount : Int32} {f_programBound : Int32} {f_endingCount : Int32} {f_chosen : Int32} {f_time : Int32} {a_kind : Nat → Int32} {a_first : Nat → Int32} {a_second : Nat → Int32} {a_low : Nat → Int32} {a_high : Nat → Int32} {a_parent : Nat → Int32} {a_pathsOf : Nat → Int32} {a_lengthOf : Nat → Int32} {a_choicesOf : Nat → Int32} {a_stack : Nat → Int32} {a_worstPath : Nat → Int32} {a_sureness : Nat → Int32} {a_mostMisses : Nat → Int32} {a_mostHits : Nat → Int32} {a_leastMisses : Nat → Int32} {a_endings : Nat → Int64} {a_runsHolding : Nat → Int32} {a_rounds : Nat → Int32} {a_path : Nat → Int32} {a_pathTop : Nat → Int32} {a_cache : Nat → Int32} {a_runMisses : Nat → Int32} {a_runHits : Nat → Int32} {a_table : Nat → Int32} {a_before : Nat → Int32} {a_behind : Nat → Int32} {post : SX → Prop} {n : Nat} {p1 p2 p3 : Int32} (hn : n < 18) (H : post (f_setBits, f_placeCount, f_made, f_height, f_pathCount, f_greatestLength, f_worstTime, f_bestTime, f_worstCount, f_programBound, f_endingCount, f_chosen, f_time, a_kind, a_first, a_second, a_low, a_high, a_parent, upd a_pathsOf n (ix_n p1 1000), upd a_lengthOf n (ix_n p2 1000), upd a_choicesOf n (ix_n p3 1000), a_stack, a_worstPath, a_sureness, a_mostMisses, a_mostHits, a_leastMisses, a_endings, a_runsHolding, a_rounds, a_path, a_pathTop, a_cache, a_runMisses, a_runHits, a_table, a_before, a_behind)) : wpX_measure post (f_setBits, f_placeCount, f_made, f_height, f_pathCount, f_greatestLength, f_worstTime, f_bestTime, f_worstCount, f_programBound, f_endingCount, f_chosen, f_time, a_kind, a_first, a_second, a_low, a_high, a_parent, a_pathsOf, a_lengthOf, a_choicesOf, a_stack, a_worstPath, a_sureness, a_mostMisses, a_mostHits, a_leastMisses, a_endings, a_runsHolding, a_rounds, a_path, a_pathTop, a_cache, a_runMisses, a_runHits, a_table, a_before, a_behind) (nI n) p1 p2 p3 := by
  have c : (nI n).toNatClampNeg = n := nI_clamp (by omega)
  have i : vp_in (nI n) 18 := vp_in_nI hn (by omega)
  unfold wpX_measure
  refine ix_L (And.intro i (um_u c ?_))
  refine ix_L (And.intro i (um_u c ?_))
  exact ix_L (And.intro i (um_u c H))
theorem xp_leaf {f_setBits : Int32} {f_placeCount : Int32} {f_pathCount : Int32} {f_greatestLength : Int32} {f_worstTime : Int32} {f_bestTime : Int32} {f_worstCount : Int32} {f_programBound : Int32} {f_endingCount : Int32} {f_chosen : Int32} {f_time : Int32} {a_kind : Nat → Int32} {a_first : Nat → Int32} {a_second : Nat → Int32} {a_low : Nat → Int32} {a_high : Nat → Int32} {a_parent : Nat → Int32} {a_pathsOf : Nat → Int32} {a_lengthOf : Nat → Int32} {a_choicesOf : Nat → Int32} {a_stack : Nat → Int32} {a_worstPath : Nat → Int32} {a_sureness : Nat → Int32} {a_mostMisses : Nat → Int32} {a_mostHits : Nat → Int32} {a_leastMisses : Nat → Int32} {a_endings : Nat → Int64} {a_runsHolding : Nat → Int32} {a_rounds : Nat → Int32} {a_path : Nat → Int32} {a_pathTop : Nat → Int32} {a_cache : Nat → Int32} {a_runMisses : Nat → Int32} {a_runHits : Nat → Int32} {a_table : Nat → Int32} {a_before : Nat → Int32} {a_behind : Nat → Int32} {post : Int32 → SX → Prop} {m h : Nat} {p0 p1 : Int32} (hm : m < 18) (hh : h < 18)
    (H : post (nI m) (f_setBits, f_placeCount, nI (m + 1), nI (h + 1), f_pathCount, f_greatestLength, f_worstTime, f_bestTime, f_worstCount, f_programBound, f_endingCount, f_chosen, f_time, upd a_kind m p0, upd a_first m p1, upd a_second m 0, upd a_low m 0, upd a_high m 0, a_parent, upd a_pathsOf m (nI 1), upd a_lengthOf m (nI 1), upd a_choicesOf m (nI 0), upd a_stack h (nI m), a_worstPath, a_sureness, a_mostMisses, a_mostHits, a_leastMisses, a_endings, a_runsHolding, a_rounds, a_path, a_pathTop, a_cache, a_runMisses, a_runHits, a_table, a_before, a_behind)) : wpX_putLeaf post (f_setBits, f_placeCount, nI m, nI h, f_pathCount, f_greatestLength, f_worstTime, f_bestTime, f_worstCount, f_programBound, f_endingCount, f_chosen, f_time, a_kind, a_first, a_second, a_low, a_high, a_parent, a_pathsOf, a_lengthOf, a_choicesOf, a_stack, a_worstPath, a_sureness, a_mostMisses, a_mostHits, a_leastMisses, a_endings, a_runsHolding, a_rounds, a_path, a_pathTop, a_cache, a_runMisses, a_runHits, a_table, a_before, a_behind) p0 p1 := by
  unfold wpX_putLeaf
  refine xp_put hm hh ?_
  exact xm_meas hm H
theorem xp_seq {f_setBits : Int32} {f_placeCount : Int32} {f_pathCount : Int32} {f_greatestLength : Int32} {f_worstTime : Int32} {f_bestTime : Int32} {f_worstCount : Int32} {f_programBound : Int32} {f_endingCount : Int32} {f_chosen : Int32} {f_time : Int32} {a_kind : Nat → Int32} {a_first : Nat → Int32} {a_second : Nat → Int32} {a_low : Nat → Int32} {a_high : Nat → Int32} {a_parent : Nat → Int32} {a_pathsOf : Nat → Int32} {a_lengthOf : Nat → Int32} {a_choicesOf : Nat → Int32} {a_stack : Nat → Int32} {a_worstPath : Nat → Int32} {a_sureness : Nat → Int32} {a_mostMisses : Nat → Int32} {a_mostHits : Nat → Int32} {a_leastMisses : Nat → Int32} {a_endings : Nat → Int64} {a_runsHolding : Nat → Int32} {a_rounds : Nat → Int32} {a_path : Nat → Int32} {a_pathTop : Nat → Int32} {a_cache : Nat → Int32} {a_runMisses : Nat → Int32} {a_runHits : Nat → Int32} {a_table : Nat → Int32} {a_before : Nat → Int32} {a_behind : Nat → Int32} {post : Int32 → SX → Prop} {m h a b : Nat} (hm : m < 18) (hh : h < 18) (ha : a < 18) (hb : b < 18)
    (H : post (nI m) (f_setBits, f_placeCount, nI (m + 1), nI (h + 1), f_pathCount, f_greatestLength, f_worstTime, f_bestTime, f_worstCount, f_programBound, f_endingCount, f_chosen, f_time, upd a_kind m 2, upd a_first m (nI a), upd a_second m (nI b), upd a_low m 0, upd a_high m 0, upd (upd a_parent a (nI m)) b (nI m), upd a_pathsOf m (ix_n (a_pathsOf a * a_pathsOf b) 1000), upd a_lengthOf m (ix_n (a_lengthOf a + a_lengthOf b) 1000), upd a_choicesOf m (ix_n (a_choicesOf a + a_choicesOf b) 1000), upd a_stack h (nI m), a_worstPath, a_sureness, a_mostMisses, a_mostHits, a_leastMisses, a_endings, a_runsHolding, a_rounds, a_path, a_pathTop, a_cache, a_runMisses, a_runHits, a_table, a_before, a_behind)) : wpX_putSeq post (f_setBits, f_placeCount, nI m, nI h, f_pathCount, f_greatestLength, f_worstTime, f_bestTime, f_worstCount, f_programBound, f_endingCount, f_chosen, f_time, a_kind, a_first, a_second, a_low, a_high, a_parent, a_pathsOf, a_lengthOf, a_choicesOf, a_stack, a_worstPath, a_sureness, a_mostMisses, a_mostHits, a_leastMisses, a_endings, a_runsHolding, a_rounds, a_path, a_pathTop, a_cache, a_runMisses, a_runHits, a_table, a_before, a_behind) (nI a) (nI b) := by
  have ca : (nI a).toNatClampNeg = a := nI_clamp (by omega)
  have cb : (nI b).toNatClampNeg = b := nI_clamp (by omega)
  have ia : vp_in (nI a) 18 := vp_in_nI ha (by omega)
  have ib : vp_in (nI b) 18 := vp_in_nI hb (by omega)
  unfold wpX_putSeq
  refine xp_put hm hh ?_
  refine And.intro ia (um_u ca ⟨ib, um_u cb ⟨ia, ib, ia, ib, ia, ib, ?_⟩⟩)
  rw [ca, cb]
  exact xm_meas hm H
theorem xp_if {f_setBits : Int32} {f_placeCount : Int32} {f_pathCount : Int32} {f_greatestLength : Int32} {f_worstTime : Int32} {f_bestTime : Int32} {f_worstCount : Int32} {f_programBound : Int32} {f_endingCount : Int32} {f_chosen : Int32} {f_time : Int32} {a_kind : Nat → Int32} {a_first : Nat → Int32} {a_second : Nat → Int32} {a_low : Nat → Int32} {a_high : Nat → Int32} {a_parent : Nat → Int32} {a_pathsOf : Nat → Int32} {a_lengthOf : Nat → Int32} {a_choicesOf : Nat → Int32} {a_stack : Nat → Int32} {a_worstPath : Nat → Int32} {a_sureness : Nat → Int32} {a_mostMisses : Nat → Int32} {a_mostHits : Nat → Int32} {a_leastMisses : Nat → Int32} {a_endings : Nat → Int64} {a_runsHolding : Nat → Int32} {a_rounds : Nat → Int32} {a_path : Nat → Int32} {a_pathTop : Nat → Int32} {a_cache : Nat → Int32} {a_runMisses : Nat → Int32} {a_runHits : Nat → Int32} {a_table : Nat → Int32} {a_before : Nat → Int32} {a_behind : Nat → Int32} {post : Int32 → SX → Prop} {m h a b : Nat} (hm : m < 18) (hh : h < 18) (ha : a < 18) (hb : b < 18)
    (H : post (nI m) (f_setBits, f_placeCount, nI (m + 1), nI (h + 1), f_pathCount, f_greatestLength, f_worstTime, f_bestTime, f_worstCount, f_programBound, f_endingCount, f_chosen, f_time, upd a_kind m 3, upd a_first m (nI a), upd a_second m (nI b), upd a_low m 0, upd (upd a_high m 0) m 1, upd (upd a_parent a (nI m)) b (nI m), upd a_pathsOf m (ix_n (a_pathsOf a + a_pathsOf b) 1000), upd a_lengthOf m (ix_n (ix_x (a_lengthOf a) (a_lengthOf b)) 1000), upd a_choicesOf m (ix_n (1 + ix_x (a_choicesOf a) (a_choicesOf b)) 1000), upd a_stack h (nI m), a_worstPath, a_sureness, a_mostMisses, a_mostHits, a_leastMisses, a_endings, a_runsHolding, a_rounds, a_path, a_pathTop, a_cache, a_runMisses, a_runHits, a_table, a_before, a_behind)) : wpX_putIf post (f_setBits, f_placeCount, nI m, nI h, f_pathCount, f_greatestLength, f_worstTime, f_bestTime, f_worstCount, f_programBound, f_endingCount, f_chosen, f_time, a_kind, a_first, a_second, a_low, a_high, a_parent, a_pathsOf, a_lengthOf, a_choicesOf, a_stack, a_worstPath, a_sureness, a_mostMisses, a_mostHits, a_leastMisses, a_endings, a_runsHolding, a_rounds, a_path, a_pathTop, a_cache, a_runMisses, a_runHits, a_table, a_before, a_behind) (nI a) (nI b) := by
  have ca : (nI a).toNatClampNeg = a := nI_clamp (by omega)
  have cb : (nI b).toNatClampNeg = b := nI_clamp (by omega)
  have cm : (nI m).toNatClampNeg = m := nI_clamp (by omega)
  have ia : vp_in (nI a) 18 := vp_in_nI ha (by omega)
  have ib : vp_in (nI b) 18 := vp_in_nI hb (by omega)
  have im : vp_in (nI m) 18 := vp_in_nI hm (by omega)
  unfold wpX_putIf
  refine xp_put hm hh ?_
  refine And.intro im (um_u cm ⟨ia, um_u ca ⟨ib, um_u cb ⟨ia, ib, ?_⟩⟩⟩)
  rw [ca, cb]
  refine ix_G ⟨ia, ib, ix_G ⟨ia, ib, ?_⟩⟩
  exact xm_meas hm H
theorem xp_42 {f_setBits : Int32} {f_placeCount : Int32} {f_made : Int32} {f_height : Int32} {f_pathCount : Int32} {f_greatestLength : Int32} {f_worstTime : Int32} {f_bestTime : Int32} {f_worstCount : Int32} {f_programBound : Int32} {f_endingCount : Int32} {f_chosen : Int32} {f_time : Int32} {a_kind : Nat → Int32} {a_first : Nat → Int32} {a_second : Nat → Int32} {a_low : Nat → Int32} {a_high : Nat → Int32} {a_parent : Nat → Int32} {a_pathsOf : Nat → Int32} {a_lengthOf : Nat → Int32} {a_choicesOf : Nat → Int32} {a_stack : Nat → Int32} {a_worstPath : Nat → Int32} {a_sureness : Nat → Int32} {a_mostMisses : Nat → Int32} {a_mostHits : Nat → Int32} {a_leastMisses : Nat → Int32} {a_endings : Nat → Int64} {a_runsHolding : Nat → Int32} {a_rounds : Nat → Int32} {a_path : Nat → Int32} {a_pathTop : Nat → Int32} {a_cache : Nat → Int32} {a_runMisses : Nat → Int32} {a_runHits : Nat → Int32} {a_table : Nat → Int32} {a_before : Nat → Int32} {a_behind : Nat → Int32} {post : Int32 → SX → Prop} {m a lo hi P : Nat} (hm : m < 18) (ha : a < 18) (hlo : lo ≤ hi) (hhi : hi ≤ 4) (hP1 : 1 ≤ P) (hP : a_pathsOf a = nI (min P 1000))
    (H : post (nI m) (f_setBits, f_placeCount, f_made, f_height, f_pathCount, f_greatestLength, f_worstTime, f_bestTime, f_worstCount, f_programBound, f_endingCount, f_chosen, f_time, a_kind, a_first, a_second, a_low, a_high, a_parent, upd a_pathsOf m (ix_n (nI (mn_tt P lo (hi + 1))) 1000), upd a_lengthOf m (ix_n (nI hi * (1 + a_lengthOf a)) 1000), upd a_choicesOf m (ix_n (nI (if lo < hi then 1 else 0) + nI hi * a_choicesOf a) 1000), a_stack, a_worstPath, a_sureness, a_mostMisses, a_mostHits, a_leastMisses, a_endings, a_runsHolding, a_rounds, a_path, a_pathTop, a_cache, a_runMisses, a_runHits, a_table, a_before, a_behind)) :
    ∀ d i, i + d = hi + 1 → wX_putLoop_42 post (nI a) (nI lo) (nI hi) (nI m) f_setBits f_placeCount f_made f_height f_pathCount f_greatestLength f_worstTime f_bestTime f_worstCount f_programBound f_endingCount f_chosen f_time a_kind a_first a_second a_low a_high a_parent a_pathsOf a_lengthOf a_choicesOf a_stack a_worstPath a_sureness a_mostMisses a_mostHits a_leastMisses a_endings a_runsHolding a_rounds a_path a_pathTop a_cache a_runMisses a_runHits a_table a_before a_behind (d + 1) (nI (mn_tt P lo i)) (nI (min (P ^ i) 1000)) (nI i) := by
  have ca : (nI a).toNatClampNeg = a := nI_clamp (by omega)
  have ia : vp_in (nI a) 18 := vp_in_nI ha (by omega)
  have W : ∀ z0 : Int32, z0 = nI (if lo < hi then 1 else 0) → wX_putLoop_94 post (nI a) (nI hi) (nI m) (nI (mn_tt P lo (hi + 1))) z0 f_setBits f_placeCount f_made f_height f_pathCount f_greatestLength f_worstTime f_bestTime f_worstCount f_programBound f_endingCount f_chosen f_time a_kind a_first a_second a_low a_high a_parent a_pathsOf a_lengthOf a_choicesOf a_stack a_worstPath a_sureness a_mostMisses a_mostHits a_leastMisses a_endings a_runsHolding a_rounds a_path a_pathTop a_cache a_runMisses a_runHits a_table a_before a_behind := by
    intro z0 e
    subst e
    refine And.intro ia ⟨ia, ?_⟩
    rw [ca]
    exact xm_meas hm H
  intro d
  induction d with
  | zero =>
    intro i hi'
    have hi' : i = hi + 1 := by omega
    subst hi'
    refine br_t (nI_lt (by omega) (by omega)) ?_
    by_cases z : lo < hi
    · exact br_f (nI_ge z (by omega)) (W 1 (by rw [if_pos z]; rfl))
    · exact br_t (nI_le (by omega) (by omega)) (W 0 (by rw [if_neg z]; rfl))
  | succ d ih =>
    intro i hi'
    refine br_f (nI_nlt (by omega) (by omega)) ?_
    have hb : min (P ^ i) 1000 * min P 1000 < 2 ^ 31 := by
      have : min (P ^ i) 1000 * min P 1000 ≤ 1000 * 1000 := Nat.mul_le_mul (Nat.min_le_right _ _) (Nat.min_le_right _ _)
      omega
    have step : ∀ x5 : Int32, x5 = nI (mn_tt P lo (i + 1)) → wX_putLoop_61 post (wX_putLoop_42 post (nI a) (nI lo) (nI hi) (nI m) f_setBits f_placeCount f_made f_height f_pathCount f_greatestLength f_worstTime f_bestTime f_worstCount f_programBound f_endingCount f_chosen f_time a_kind a_first a_second a_low a_high a_parent a_pathsOf a_lengthOf a_choicesOf a_stack a_worstPath a_sureness a_mostMisses a_mostHits a_leastMisses a_endings a_runsHolding a_rounds a_path a_pathTop a_cache a_runMisses a_runHits a_table a_before a_behind (d + 1)) (nI a) (nI lo) (nI hi) (nI m) x5 (nI (min (P ^ i) 1000)) (nI i) f_setBits f_placeCount f_made f_height f_pathCount f_greatestLength f_worstTime f_bestTime f_worstCount f_programBound f_endingCount f_chosen f_time a_kind a_first a_second a_low a_high a_parent a_pathsOf a_lengthOf a_choicesOf a_stack a_worstPath a_sureness a_mostMisses a_mostHits a_leastMisses a_endings a_runsHolding a_rounds a_path a_pathTop a_cache a_runMisses a_runHits a_table a_before a_behind := by
      intro x5 e
      subst e
      refine And.intro ia ?_
      rw [ca, hP, pk_mul]
      refine ix_L ?_
      rw [xm_nat hb, mn_pow hP1]
      exact nm_r (nI_1 i) (ih (i + 1) (by omega))
    by_cases z : i < lo
    · refine br_t (nI_lt z (by omega)) (step _ ?_)
      show nI (mn_tt P lo i) = nI (mn_tt P lo i + (if lo ≤ i then min (P ^ i) 1000 else 0))
      rw [if_neg (by omega)]; rfl
    · refine br_f (nI_nlt (by omega) (by omega)) (nm_r (nI_add _ _) (step _ ?_))
      show nI (mn_tt P lo i + min (P ^ i) 1000) = nI (mn_tt P lo i + (if lo ≤ i then min (P ^ i) 1000 else 0))
      rw [if_pos (by omega)]
theorem xp_loop {f_setBits : Int32} {f_placeCount : Int32} {f_pathCount : Int32} {f_greatestLength : Int32} {f_worstTime : Int32} {f_bestTime : Int32} {f_worstCount : Int32} {f_programBound : Int32} {f_endingCount : Int32} {f_chosen : Int32} {f_time : Int32} {a_kind : Nat → Int32} {a_first : Nat → Int32} {a_second : Nat → Int32} {a_low : Nat → Int32} {a_high : Nat → Int32} {a_parent : Nat → Int32} {a_pathsOf : Nat → Int32} {a_lengthOf : Nat → Int32} {a_choicesOf : Nat → Int32} {a_stack : Nat → Int32} {a_worstPath : Nat → Int32} {a_sureness : Nat → Int32} {a_mostMisses : Nat → Int32} {a_mostHits : Nat → Int32} {a_leastMisses : Nat → Int32} {a_endings : Nat → Int64} {a_runsHolding : Nat → Int32} {a_rounds : Nat → Int32} {a_path : Nat → Int32} {a_pathTop : Nat → Int32} {a_cache : Nat → Int32} {a_runMisses : Nat → Int32} {a_runHits : Nat → Int32} {a_table : Nat → Int32} {a_before : Nat → Int32} {a_behind : Nat → Int32} {post : Int32 → SX → Prop} {m h a lo hi P : Nat} (hm : m < 18) (hh : h < 18) (ha : a < 18) (hlo : lo ≤ hi) (hhi : hi ≤ 4) (hP1 : 1 ≤ P) (hP : a_pathsOf a = nI (min P 1000))
    (H : post (nI m) (f_setBits, f_placeCount, nI (m + 1), nI (h + 1), f_pathCount, f_greatestLength, f_worstTime, f_bestTime, f_worstCount, f_programBound, f_endingCount, f_chosen, f_time, upd a_kind m 4, upd a_first m (nI a), upd a_second m 0, upd (upd a_low m 0) m (nI lo), upd (upd a_high m 0) m (nI hi), upd a_parent a (nI m), upd a_pathsOf m (ix_n (nI (mn_tt P lo (hi + 1))) 1000), upd a_lengthOf m (ix_n (nI hi * (1 + a_lengthOf a)) 1000), upd a_choicesOf m (ix_n (nI (if lo < hi then 1 else 0) + nI hi * a_choicesOf a) 1000), upd a_stack h (nI m), a_worstPath, a_sureness, a_mostMisses, a_mostHits, a_leastMisses, a_endings, a_runsHolding, a_rounds, a_path, a_pathTop, a_cache, a_runMisses, a_runHits, a_table, a_before, a_behind)) : wpX_putLoop post (f_setBits, f_placeCount, nI m, nI h, f_pathCount, f_greatestLength, f_worstTime, f_bestTime, f_worstCount, f_programBound, f_endingCount, f_chosen, f_time, a_kind, a_first, a_second, a_low, a_high, a_parent, a_pathsOf, a_lengthOf, a_choicesOf, a_stack, a_worstPath, a_sureness, a_mostMisses, a_mostHits, a_leastMisses, a_endings, a_runsHolding, a_rounds, a_path, a_pathTop, a_cache, a_runMisses, a_runHits, a_table, a_before, a_behind) (nI a) (nI lo) (nI hi) := by
  have ca : (nI a).toNatClampNeg = a := nI_clamp (by omega)
  have cm : (nI m).toNatClampNeg = m := nI_clamp (by omega)
  have ia : vp_in (nI a) 18 := vp_in_nI ha (by omega)
  have im : vp_in (nI m) 18 := vp_in_nI hm (by omega)
  unfold wpX_putLoop
  refine xp_put hm hh ?_
  refine And.intro im (um_u cm ⟨im, um_u cm ⟨ia, um_u ca ⟨hi + 2, ?_⟩⟩⟩)
  exact xp_42 hm ha hlo hhi hP1 hP H (hi + 1) 0 (by omega)
