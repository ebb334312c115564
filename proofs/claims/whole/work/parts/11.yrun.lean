/-! Y: the steps of a run -/
def pu_f (todo : Nat → Int32) (o : Nat) (x : Int32) : Nat → Nat → Int32
  | 0 => todo
  | k + 1 => upd (pu_f todo o x k) (o + k) x
theorem pu_td {todo : Nat → Int32} {K : List Nat} {n : Nat} (h : td_L todo K) : ∀ k, td_L (pu_f todo K.length (nI n) k) (List.replicate k n ++ K) := by
  intro k
  induction k with
  | zero => exact h
  | succ k ih =>
    rw [List.replicate_succ, List.cons_append]
    refine td_push ih ?_ rfl
    rw [List.length_append, List.length_replicate, Nat.add_comm]
theorem yp_loop {h_sets : Int32} {h_places : Int32} {h_made : Int32} {h_depth : Int32} {h_size : Int32} {h_open : Int32} {h_time : Int32} {h_chosen : Int32} {h_kept : Int32} {h_worst : Int32} {h_best : Int32} {h_worstRuns : Int32} {h_worstChoices : Int32} {h_ends : Int32} {h_bound : Int32} {h_under : Int32} {h_back : Int32} {b_sorts : Nat → Int32} {b_lows : Nat → Int32} {b_highs : Nat → Int32} {b_firsts : Nat → Int32} {b_seconds : Nat → Int32} {b_stack : Nat → Int32} {b_pathsOf : Nat → Int32} {b_lengthOf : Nat → Int32} {b_choicesOf : Nat → Int32} {b_todo : Nat → Int32} {b_cache : Nat → Int32} {b_path : Nat → Int32} {b_tops : Nat → Int32} {b_missed : Nat → Int32} {b_struck : Nat → Int32} {b_worstPath : Nat → Int32} {b_mostMissed : Nat → Int32} {b_mostStruck : Nat → Int32} {b_leastMissed : Nat → Int32} {b_held : Nat → Int32} {b_contents : Nat → Int64} {b_ages : Nat → Int32} {b_phase : Nat → Int32} {b_node : Nat → Int32} {b_sum : Nat → Int32} {b_saved : Nat → Int32} {b_greatest : Nat → Int32} {b_met : Nat → Int32} {b_unsure : Nat → Int32} {post : SY → Prop} {o k : Nat} {x : Int32} (ho : o + k ≤ 120) (H : post (h_sets, h_places, h_made, h_depth, h_size, nI (o + k), h_time, h_chosen, h_kept, h_worst, h_best, h_worstRuns, h_worstChoices, h_ends, h_bound, h_under, h_back, b_sorts, b_lows, b_highs, b_firsts, b_seconds, b_stack, b_pathsOf, b_lengthOf, b_choicesOf, pu_f b_todo o x k, b_cache, b_path, b_tops, b_missed, b_struck, b_worstPath, b_mostMissed, b_mostStruck, b_leastMissed, b_held, b_contents, b_ages, b_phase, b_node, b_sum, b_saved, b_greatest, b_met, b_unsure)) :
    ∀ d i, i + d = k → wY_push_2 post x (nI k) h_sets h_places h_made h_depth h_size h_time h_chosen h_kept h_worst h_best h_worstRuns h_worstChoices h_ends h_bound h_under h_back (d + 1) (nI i) (nI (o + i)) b_sorts b_lows b_highs b_firsts b_seconds b_stack b_pathsOf b_lengthOf b_choicesOf (pu_f b_todo o x i) b_cache b_path b_tops b_missed b_struck b_worstPath b_mostMissed b_mostStruck b_leastMissed b_held b_contents b_ages b_phase b_node b_sum b_saved b_greatest b_met b_unsure := by
  intro d
  induction d with
  | zero =>
    intro i hi
    have hi : i = k := by omega
    subst hi
    exact br_t (nI_le (Nat.le_refl _) (by omega)) H
  | succ d ih =>
    intro i hi
    have c : (nI (o + i)).toNatClampNeg = o + i := nI_clamp (by omega)
    refine br_f (nI_ge (by omega) (by omega)) ⟨vp_in_nI (by omega) (by omega), um_u c (nm_r (nI_1 (o + i)) (nm_r (nI_1 i) ?_))⟩
    exact ih (i + 1) (by omega)
theorem yp_push {h_sets : Int32} {h_places : Int32} {h_made : Int32} {h_depth : Int32} {h_size : Int32} {h_open : Int32} {h_time : Int32} {h_chosen : Int32} {h_kept : Int32} {h_worst : Int32} {h_best : Int32} {h_worstRuns : Int32} {h_worstChoices : Int32} {h_ends : Int32} {h_bound : Int32} {h_under : Int32} {h_back : Int32} {b_sorts : Nat → Int32} {b_lows : Nat → Int32} {b_highs : Nat → Int32} {b_firsts : Nat → Int32} {b_seconds : Nat → Int32} {b_stack : Nat → Int32} {b_pathsOf : Nat → Int32} {b_lengthOf : Nat → Int32} {b_choicesOf : Nat → Int32} {b_todo : Nat → Int32} {b_cache : Nat → Int32} {b_path : Nat → Int32} {b_tops : Nat → Int32} {b_missed : Nat → Int32} {b_struck : Nat → Int32} {b_worstPath : Nat → Int32} {b_mostMissed : Nat → Int32} {b_mostStruck : Nat → Int32} {b_leastMissed : Nat → Int32} {b_held : Nat → Int32} {b_contents : Nat → Int64} {b_ages : Nat → Int32} {b_phase : Nat → Int32} {b_node : Nat → Int32} {b_sum : Nat → Int32} {b_saved : Nat → Int32} {b_greatest : Nat → Int32} {b_met : Nat → Int32} {b_unsure : Nat → Int32} {post : SY → Prop} {o k : Nat} {x : Int32} (ho : o + k ≤ 120) (H : post (h_sets, h_places, h_made, h_depth, h_size, nI (o + k), h_time, h_chosen, h_kept, h_worst, h_best, h_worstRuns, h_worstChoices, h_ends, h_bound, h_under, h_back, b_sorts, b_lows, b_highs, b_firsts, b_seconds, b_stack, b_pathsOf, b_lengthOf, b_choicesOf, pu_f b_todo o x k, b_cache, b_path, b_tops, b_missed, b_struck, b_worstPath, b_mostMissed, b_mostStruck, b_leastMissed, b_held, b_contents, b_ages, b_phase, b_node, b_sum, b_saved, b_greatest, b_met, b_unsure)) : wpY_push post (h_sets, h_places, h_made, h_depth, h_size, nI o, h_time, h_chosen, h_kept, h_worst, h_best, h_worstRuns, h_worstChoices, h_ends, h_bound, h_under, h_back, b_sorts, b_lows, b_highs, b_firsts, b_seconds, b_stack, b_pathsOf, b_lengthOf, b_choicesOf, b_todo, b_cache, b_path, b_tops, b_missed, b_struck, b_worstPath, b_mostMissed, b_mostStruck, b_leastMissed, b_held, b_contents, b_ages, b_phase, b_node, b_sum, b_saved, b_greatest, b_met, b_unsure) x (nI k) :=
  Exists.intro (k + 1) (yp_loop (h_open := h_open) ho H k 0 (by omega))
/-- Y's row after the shift, places above p done -/
def sh_f (ce : Nat → Int32) (b po p : Nat) : Nat → Int32 := fun x => if b + p < x ∧ x ≤ b + po then ce (x - 1) else ce x
def sh_g (ce : Nat → Int32) (b po : Nat) (m : Int32) : Nat → Int32 := upd (sh_f ce b po 0) b m
theorem sh_0 {ce : Nat → Int32} {b po : Nat} : sh_f ce b po po = ce := by
  funext x
  show (if b + po < x ∧ x ≤ b + po then ce (x - 1) else ce x) = ce x
  rw [if_neg (by omega)]
theorem sh_s {ce : Nat → Int32} {b po p : Nat} (hp : p < po) : upd (sh_f ce b po (p + 1)) (b + (p + 1)) (sh_f ce b po (p + 1) (b + p)) = sh_f ce b po p := by
  funext x
  by_cases e : x = b + (p + 1)
  · subst e
    rw [us_s]
    show (if b + (p + 1) < b + p ∧ b + p ≤ b + po then ce (b + p - 1) else ce (b + p)) = (if b + p < b + (p + 1) ∧ b + (p + 1) ≤ b + po then ce (b + (p + 1) - 1) else ce (b + (p + 1)))
    rw [if_neg (by omega), if_pos (by omega)]
    rfl
  · rw [us_n e]
    show (if b + (p + 1) < x ∧ x ≤ b + po then ce (x - 1) else ce x) = (if b + p < x ∧ x ≤ b + po then ce (x - 1) else ce x)
    by_cases d : b + (p + 1) < x ∧ x ≤ b + po
    · rw [if_pos d, if_pos (by omega)]
    · rw [if_neg d, if_neg (by omega)]
theorem sh_val {ce : Nat → Int32} {bb po : Nat} {m : Int32} : ∀ b p, b < 4 → p < 4 → po < 4 → sh_g ce (4 * bb) po m (4 * b + p) = if b = bb ∧ p = 0 then m else if b = bb ∧ p ≤ po then ce (4 * b + (p - 1)) else ce (4 * b + p) := by
  intro b p hb hp hpo
  unfold sh_g
  by_cases e : b = bb ∧ p = 0
  · rw [if_pos e]
    obtain ⟨e1, e2⟩ := e
    subst e1 e2
    exact us_s
  · rw [if_neg e, us_n (by omega)]
    show (if 4 * bb + 0 < 4 * b + p ∧ 4 * b + p ≤ 4 * bb + po then ce (4 * b + p - 1) else ce (4 * b + p)) = _
    by_cases d : b = bb ∧ p ≤ po
    · rw [if_pos d, if_pos (by omega)]
      have : 4 * b + p - 1 = 4 * b + (p - 1) := by omega
      rw [this]
    · rw [if_neg d, if_neg (by omega)]
theorem ys_loop {h_sets : Int32} {h_places : Int32} {h_made : Int32} {h_depth : Int32} {h_size : Int32} {h_open : Int32} {h_time : Int32} {h_chosen : Int32} {h_kept : Int32} {h_worst : Int32} {h_best : Int32} {h_worstRuns : Int32} {h_worstChoices : Int32} {h_ends : Int32} {h_bound : Int32} {h_under : Int32} {h_back : Int32} {b_sorts : Nat → Int32} {b_lows : Nat → Int32} {b_highs : Nat → Int32} {b_firsts : Nat → Int32} {b_seconds : Nat → Int32} {b_stack : Nat → Int32} {b_pathsOf : Nat → Int32} {b_lengthOf : Nat → Int32} {b_choicesOf : Nat → Int32} {b_todo : Nat → Int32} {b_cache : Nat → Int32} {b_path : Nat → Int32} {b_tops : Nat → Int32} {b_missed : Nat → Int32} {b_struck : Nat → Int32} {b_worstPath : Nat → Int32} {b_mostMissed : Nat → Int32} {b_mostStruck : Nat → Int32} {b_leastMissed : Nat → Int32} {b_held : Nat → Int32} {b_contents : Nat → Int64} {b_ages : Nat → Int32} {b_phase : Nat → Int32} {b_node : Nat → Int32} {b_sum : Nat → Int32} {b_saved : Nat → Int32} {b_greatest : Nat → Int32} {b_met : Nat → Int32} {b_unsure : Nat → Int32} {post : SY → Prop} {b po : Nat} {m : Int32} (hb : b + po < 16) (H : post (h_sets, h_places, h_made, h_depth, h_size, h_open, h_time, h_chosen, h_kept, h_worst, h_best, h_worstRuns, h_worstChoices, h_ends, h_bound, h_under, h_back, b_sorts, b_lows, b_highs, b_firsts, b_seconds, b_stack, b_pathsOf, b_lengthOf, b_choicesOf, b_todo, sh_g b_cache b po m, b_path, b_tops, b_missed, b_struck, b_worstPath, b_mostMissed, b_mostStruck, b_leastMissed, b_held, b_contents, b_ages, b_phase, b_node, b_sum, b_saved, b_greatest, b_met, b_unsure)) :
    ∀ p, p ≤ po → wY_touch_105 post m (nI b) h_sets h_places h_made h_depth h_size h_open h_time h_chosen h_kept h_worst h_best h_worstRuns h_worstChoices h_ends h_bound h_under h_back (p + 1) (nI p) b_sorts b_lows b_highs b_firsts b_seconds b_stack b_pathsOf b_lengthOf b_choicesOf b_todo (sh_f b_cache b po p) b_path b_tops b_missed b_struck b_worstPath b_mostMissed b_mostStruck b_leastMissed b_held b_contents b_ages b_phase b_node b_sum b_saved b_greatest b_met b_unsure := by
  intro p
  induction p with
  | zero =>
    intro _
    have c : (nI b).toNatClampNeg = b := nI_clamp (by omega)
    exact br_t (nI_le (b := 0) (by omega) (by omega)) ⟨vp_in_nI (by omega) (by omega), um_u c H⟩
  | succ p ih =>
    intro hp
    have e1 : nI b + nI (p + 1) = nI (b + (p + 1)) := nI_add _ _
    have e2 : nI b + nI (p + 1) - 1 = nI (b + p) := by rw [e1]; exact nI_pred (b + p)
    have c1 : (nI b + nI (p + 1)).toNatClampNeg = b + (p + 1) := by rw [e1]; exact nI_clamp (by omega)
    have c2 : (nI b + nI (p + 1) - 1).toNatClampNeg = b + p := by rw [e2]; exact nI_clamp (by omega)
    refine br_f (nI_ge (a := 0) (by omega) (by omega)) ⟨by rw [e2]; exact vp_in_nI (by omega) (by omega), by rw [e1]; exact vp_in_nI (by omega) (by omega), ?_⟩
    rw [c1, c2, sh_s (by omega)]
    exact nm_e (nm_r (pk_m1 p) (ih (by omega)))
theorem yt_find {h_sets : Int32} {h_places : Int32} {h_made : Int32} {h_depth : Int32} {h_size : Int32} {h_open : Int32} {h_time : Int32} {h_chosen : Int32} {h_kept : Int32} {h_worst : Int32} {h_best : Int32} {h_worstRuns : Int32} {h_worstChoices : Int32} {h_ends : Int32} {h_bound : Int32} {h_under : Int32} {h_back : Int32} {b_sorts : Nat → Int32} {b_lows : Nat → Int32} {b_highs : Nat → Int32} {b_firsts : Nat → Int32} {b_seconds : Nat → Int32} {b_stack : Nat → Int32} {b_pathsOf : Nat → Int32} {b_lengthOf : Nat → Int32} {b_choicesOf : Nat → Int32} {b_todo : Nat → Int32} {b_cache : Nat → Int32} {b_path : Nat → Int32} {b_tops : Nat → Int32} {b_missed : Nat → Int32} {b_struck : Nat → Int32} {b_worstPath : Nat → Int32} {b_mostMissed : Nat → Int32} {b_mostStruck : Nat → Int32} {b_leastMissed : Nat → Int32} {b_held : Nat → Int32} {b_contents : Nat → Int64} {b_ages : Nat → Int32} {b_phase : Nat → Int32} {b_node : Nat → Int32} {b_sum : Nat → Int32} {b_saved : Nat → Int32} {b_greatest : Nat → Int32} {b_met : Nat → Int32} {b_unsure : Nat → Int32} {post : SY → Prop} {x1 : Int32} {b w m a : Nat} (hw : w ≤ 4) (hb : b + 4 ≤ 16) (hpl : h_places = nI w) (ha : a ≤ w) (hc : ∀ p, p < w → (b_cache (b + p) = nI m ↔ p = a))
    (H : wY_touch_40 post x1 (nI m) (nI b) (nI a) h_sets h_places h_made h_depth h_size h_open h_time h_chosen h_kept h_worst h_best h_worstRuns h_worstChoices h_ends h_bound h_under h_back b_sorts b_lows b_highs b_firsts b_seconds b_stack b_pathsOf b_lengthOf b_choicesOf b_todo b_cache b_path b_tops b_missed b_struck b_worstPath b_mostMissed b_mostStruck b_leastMissed b_held b_contents b_ages b_phase b_node b_sum b_saved b_greatest b_met b_unsure) : ∀ d i, i + d = w → i ≤ a → wY_touch_12 post x1 (nI m) (nI b) h_sets h_places h_made h_depth h_size h_open h_time h_chosen h_kept h_worst h_best h_worstRuns h_worstChoices h_ends h_bound h_under h_back b_sorts b_lows b_highs b_firsts b_seconds b_stack b_pathsOf b_lengthOf b_choicesOf b_todo b_cache b_path b_tops b_missed b_struck b_worstPath b_mostMissed b_mostStruck b_leastMissed b_held b_contents b_ages b_phase b_node b_sum b_saved b_greatest b_met b_unsure (d + 1) (nI i) := by
  subst hpl
  intro d
  induction d with
  | zero =>
    intro i hi hia
    have hi : i = w := by omega
    subst hi
    have : a = i := by omega
    subst this
    exact br_t (nI_le (Nat.le_refl _) (by omega)) H
  | succ d ih =>
    intro i hi hia
    have e1 : nI b + nI i = nI (b + i) := nI_add _ _
    have c1 : (nI b + nI i).toNatClampNeg = b + i := by rw [e1]; exact nI_clamp (by omega)
    refine br_f (nI_ge (by omega) (by omega)) ⟨by rw [e1]; exact vp_in_nI (by omega) (by omega), ?_⟩
    rw [c1]
    refine br_c (fun z => ?_) (fun z => nm_r (nI_1 i) (ih (i + 1) (by omega) ?_))
    · have := (hc i (by omega)).mp z
      subst this
      exact H
    · have : i ≠ a := fun y => z ((hc i (by omega)).mpr y)
      omega
theorem yt_touch {h_sets : Int32} {h_places : Int32} {h_made : Int32} {h_depth : Int32} {h_size : Int32} {h_open : Int32} {h_time : Int32} {h_chosen : Int32} {h_kept : Int32} {h_worst : Int32} {h_best : Int32} {h_worstRuns : Int32} {h_worstChoices : Int32} {h_ends : Int32} {h_bound : Int32} {h_under : Int32} {h_back : Int32} {b_sorts : Nat → Int32} {b_lows : Nat → Int32} {b_highs : Nat → Int32} {b_firsts : Nat → Int32} {b_seconds : Nat → Int32} {b_stack : Nat → Int32} {b_pathsOf : Nat → Int32} {b_lengthOf : Nat → Int32} {b_choicesOf : Nat → Int32} {b_todo : Nat → Int32} {b_cache : Nat → Int32} {b_path : Nat → Int32} {b_tops : Nat → Int32} {b_missed : Nat → Int32} {b_struck : Nat → Int32} {b_worstPath : Nat → Int32} {b_mostMissed : Nat → Int32} {b_mostStruck : Nat → Int32} {b_leastMissed : Nat → Int32} {b_held : Nat → Int32} {b_contents : Nat → Int64} {b_ages : Nat → Int32} {b_phase : Nat → Int32} {b_node : Nat → Int32} {b_sum : Nat → Int32} {b_saved : Nat → Int32} {b_greatest : Nat → Int32} {b_met : Nat → Int32} {b_unsure : Nat → Int32} {post : SY → Prop} {s w m a n : Nat} (hn : n < 18) (hm : m < 12) (hs0 : 0 < s) (hs : s ≤ 4) (hw0 : 0 < w) (hw : w ≤ 4) (hsets : h_sets = nI s) (hpl : h_places = nI w) (ha : a ≤ w)
    (hc : ∀ p, p < w → (b_cache (4 * (m % s) + p) = nI m ↔ p = a))
    (Hh : a < w → post (h_sets, h_places, h_made, h_depth, h_size, h_open, h_time + 1, h_chosen, h_kept, h_worst, h_best, h_worstRuns, h_worstChoices, h_ends, h_bound, h_under, h_back, b_sorts, b_lows, b_highs, b_firsts, b_seconds, b_stack, b_pathsOf, b_lengthOf, b_choicesOf, b_todo, sh_g b_cache (4 * (m % s)) a (nI m), b_path, b_tops, b_missed, upd b_struck n (b_struck n + 1), b_worstPath, b_mostMissed, b_mostStruck, b_leastMissed, b_held, b_contents, b_ages, b_phase, b_node, b_sum, b_saved, b_greatest, b_met, b_unsure))
    (Hm : ¬ a < w → post (h_sets, h_places, h_made, h_depth, h_size, h_open, h_time + 10, h_chosen, h_kept, h_worst, h_best, h_worstRuns, h_worstChoices, h_ends, h_bound, h_under, h_back, b_sorts, b_lows, b_highs, b_firsts, b_seconds, b_stack, b_pathsOf, b_lengthOf, b_choicesOf, b_todo, sh_g b_cache (4 * (m % s)) (w - 1) (nI m), b_path, b_tops, upd b_missed n (b_missed n + 1), b_struck, b_worstPath, b_mostMissed, b_mostStruck, b_leastMissed, b_held, b_contents, b_ages, b_phase, b_node, b_sum, b_saved, b_greatest, b_met, b_unsure)) : wpY_touch post (h_sets, h_places, h_made, h_depth, h_size, h_open, h_time, h_chosen, h_kept, h_worst, h_best, h_worstRuns, h_worstChoices, h_ends, h_bound, h_under, h_back, b_sorts, b_lows, b_highs, b_firsts, b_seconds, b_stack, b_pathsOf, b_lengthOf, b_choicesOf, b_todo, b_cache, b_path, b_tops, b_missed, b_struck, b_worstPath, b_mostMissed, b_mostStruck, b_leastMissed, b_held, b_contents, b_ages, b_phase, b_node, b_sum, b_saved, b_greatest, b_met, b_unsure) (nI n) (nI m) := by
  have hb := Nat.mod_lt m hs0
  have i : vp_in (nI n) 18 := vp_in_nI hn (by omega)
  have c : (nI n).toNatClampNeg = n := nI_clamp (by omega)
  have e : 4 * (nI m - nI m / h_sets * h_sets) = nI (4 * (m % s)) := by
    rw [hsets, pk_rem (by omega) hs0 (by omega)]
    exact pk_mul 4 _
  refine And.intro (by rw [hsets]; exact nI_ne0 hs0 (by omega)) (nm_r e ⟨w + 1, ?_⟩)
  refine yt_find hw (by omega) hpl ha hc ?_ w 0 (by omega) (by omega)
  subst hpl
  by_cases z : a < w
  · refine br_f (nI_ge z (by omega)) (nm_e ⟨i, i, ?_⟩)
    rw [c]
    refine nm_e ⟨a + 1, ?_⟩
    have L := ys_loop (b_cache := b_cache) (b := 4 * (m % s)) (po := a) (by omega) (Hh z) a (Nat.le_refl _)
    rw [sh_0] at L
    exact L
  · refine br_t (nI_le (by omega) (by omega)) (nm_e ⟨i, i, ?_⟩)
    rw [c]
    have e1 : nI w - 1 = nI (w - 1) := by
      obtain ⟨v, rfl⟩ : ∃ v, w = v + 1 := ⟨w - 1, by omega⟩
      exact nI_pred v
    refine nm_e (nm_r e1 ⟨w - 1 + 1, ?_⟩)
    have L := ys_loop (b_cache := b_cache) (b := 4 * (m % s)) (po := w - 1) (by omega) (Hm z) (w - 1) (Nat.le_refl _)
    rw [sh_0] at L
    exact L
theorem yh_choose {h_sets : Int32} {h_places : Int32} {h_made : Int32} {h_depth : Int32} {h_size : Int32} {h_open : Int32} {h_time : Int32} {h_chosen : Int32} {h_kept : Int32} {h_worst : Int32} {h_best : Int32} {h_worstRuns : Int32} {h_worstChoices : Int32} {h_ends : Int32} {h_bound : Int32} {h_under : Int32} {h_back : Int32} {b_sorts : Nat → Int32} {b_lows : Nat → Int32} {b_highs : Nat → Int32} {b_firsts : Nat → Int32} {b_seconds : Nat → Int32} {b_stack : Nat → Int32} {b_pathsOf : Nat → Int32} {b_lengthOf : Nat → Int32} {b_choicesOf : Nat → Int32} {b_todo : Nat → Int32} {b_cache : Nat → Int32} {b_path : Nat → Int32} {b_tops : Nat → Int32} {b_missed : Nat → Int32} {b_struck : Nat → Int32} {b_worstPath : Nat → Int32} {b_mostMissed : Nat → Int32} {b_mostStruck : Nat → Int32} {b_leastMissed : Nat → Int32} {b_held : Nat → Int32} {b_contents : Nat → Int64} {b_ages : Nat → Int32} {b_phase : Nat → Int32} {b_node : Nat → Int32} {b_sum : Nat → Int32} {b_saved : Nat → Int32} {b_greatest : Nat → Int32} {b_met : Nat → Int32} {b_unsure : Nat → Int32} {Q : Int32 → SY → Prop} {t kept : Nat} {lo hi : Int32} (ht : t < 20) (hk : kept ≤ 20) (hc : h_chosen = nI t) (hkp : h_kept = nI kept)
    (H1 : ¬ t < kept → Q lo (h_sets, h_places, h_made, h_depth, h_size, h_open, h_time, nI (t + 1), h_kept, h_worst, h_best, h_worstRuns, h_worstChoices, h_ends, h_bound, h_under, h_back, b_sorts, b_lows, b_highs, b_firsts, b_seconds, b_stack, b_pathsOf, b_lengthOf, b_choicesOf, b_todo, b_cache, upd b_path t lo, upd b_tops t hi, b_missed, b_struck, b_worstPath, b_mostMissed, b_mostStruck, b_leastMissed, b_held, b_contents, b_ages, b_phase, b_node, b_sum, b_saved, b_greatest, b_met, b_unsure))
    (H2 : t < kept → Q (b_path t) (h_sets, h_places, h_made, h_depth, h_size, h_open, h_time, nI (t + 1), h_kept, h_worst, h_best, h_worstRuns, h_worstChoices, h_ends, h_bound, h_under, h_back, b_sorts, b_lows, b_highs, b_firsts, b_seconds, b_stack, b_pathsOf, b_lengthOf, b_choicesOf, b_todo, b_cache, b_path, upd b_tops t hi, b_missed, b_struck, b_worstPath, b_mostMissed, b_mostStruck, b_leastMissed, b_held, b_contents, b_ages, b_phase, b_node, b_sum, b_saved, b_greatest, b_met, b_unsure)) : wpY_choose Q (h_sets, h_places, h_made, h_depth, h_size, h_open, h_time, h_chosen, h_kept, h_worst, h_best, h_worstRuns, h_worstChoices, h_ends, h_bound, h_under, h_back, b_sorts, b_lows, b_highs, b_firsts, b_seconds, b_stack, b_pathsOf, b_lengthOf, b_choicesOf, b_todo, b_cache, b_path, b_tops, b_missed, b_struck, b_worstPath, b_mostMissed, b_mostStruck, b_leastMissed, b_held, b_contents, b_ages, b_phase, b_node, b_sum, b_saved, b_greatest, b_met, b_unsure) lo hi := by
  subst hc hkp
  have ct : (nI t).toNatClampNeg = t := nI_clamp (by omega)
  have it : vp_in (nI t) 24 := vp_in_nI (by omega) (by omega)
  have e : nI (t + 1) - 1 = nI t := nI_pred t
  by_cases z : t < kept
  · refine br_t (nI_lt z (by omega)) (And.intro it (um_u ct (nm_r (nI_1 t) ?_)))
    rw [e, ct]
    exact ⟨it, H2 z⟩
  · refine br_f (nI_nlt (by omega) (by omega)) ⟨it, um_u ct (And.intro it (um_u ct (nm_r (nI_1 t) ?_)))⟩
    rw [e, ct, us_s]
    exact ⟨it, H1 z⟩
section
variable {post : SY → Prop} {n : Nat}
theorem yb_acc {h_sets : Int32} {h_places : Int32} {h_made : Int32} {h_depth : Int32} {h_size : Int32} {h_open : Int32} {h_time : Int32} {h_chosen : Int32} {h_kept : Int32} {h_worst : Int32} {h_best : Int32} {h_worstRuns : Int32} {h_worstChoices : Int32} {h_ends : Int32} {h_bound : Int32} {h_under : Int32} {h_back : Int32} {b_sorts : Nat → Int32} {b_lows : Nat → Int32} {b_highs : Nat → Int32} {b_firsts : Nat → Int32} {b_seconds : Nat → Int32} {b_stack : Nat → Int32} {b_pathsOf : Nat → Int32} {b_lengthOf : Nat → Int32} {b_choicesOf : Nat → Int32} {b_todo : Nat → Int32} {b_cache : Nat → Int32} {b_path : Nat → Int32} {b_tops : Nat → Int32} {b_missed : Nat → Int32} {b_struck : Nat → Int32} {b_worstPath : Nat → Int32} {b_mostMissed : Nat → Int32} {b_mostStruck : Nat → Int32} {b_leastMissed : Nat → Int32} {b_held : Nat → Int32} {b_contents : Nat → Int64} {b_ages : Nat → Int32} {b_phase : Nat → Int32} {b_node : Nat → Int32} {b_sum : Nat → Int32} {b_saved : Nat → Int32} {b_greatest : Nat → Int32} {b_met : Nat → Int32} {b_unsure : Nat → Int32} (hn : n < 18) (hk : b_sorts n = 0) (H : wpY_touch post (h_sets, h_places, h_made, h_depth, h_size, h_open, h_time, h_chosen, h_kept, h_worst, h_best, h_worstRuns, h_worstChoices, h_ends, h_bound, h_under, h_back, b_sorts, b_lows, b_highs, b_firsts, b_seconds, b_stack, b_pathsOf, b_lengthOf, b_choicesOf, b_todo, b_cache, b_path, b_tops, b_missed, b_struck, b_worstPath, b_mostMissed, b_mostStruck, b_leastMissed, b_held, b_contents, b_ages, b_phase, b_node, b_sum, b_saved, b_greatest, b_met, b_unsure) (nI n) (b_lows n)) : wpY_begin post (h_sets, h_places, h_made, h_depth, h_size, h_open, h_time, h_chosen, h_kept, h_worst, h_best, h_worstRuns, h_worstChoices, h_ends, h_bound, h_under, h_back, b_sorts, b_lows, b_highs, b_firsts, b_seconds, b_stack, b_pathsOf, b_lengthOf, b_choicesOf, b_todo, b_cache, b_path, b_tops, b_missed, b_struck, b_worstPath, b_mostMissed, b_mostStruck, b_leastMissed, b_held, b_contents, b_ages, b_phase, b_node, b_sum, b_saved, b_greatest, b_met, b_unsure) (nI n) := by
  have c : (nI n).toNatClampNeg = n := nI_clamp (by omega)
  have i : vp_in (nI n) 36 := vp_in_nI (by omega) (by omega)
  refine And.intro i (br_t (by rw [c]; exact hk) ⟨i, ?_⟩)
  rw [c]
  exact H
theorem yb_work {h_sets : Int32} {h_places : Int32} {h_made : Int32} {h_depth : Int32} {h_size : Int32} {h_open : Int32} {h_time : Int32} {h_chosen : Int32} {h_kept : Int32} {h_worst : Int32} {h_best : Int32} {h_worstRuns : Int32} {h_worstChoices : Int32} {h_ends : Int32} {h_bound : Int32} {h_under : Int32} {h_back : Int32} {b_sorts : Nat → Int32} {b_lows : Nat → Int32} {b_highs : Nat → Int32} {b_firsts : Nat → Int32} {b_seconds : Nat → Int32} {b_stack : Nat → Int32} {b_pathsOf : Nat → Int32} {b_lengthOf : Nat → Int32} {b_choicesOf : Nat → Int32} {b_todo : Nat → Int32} {b_cache : Nat → Int32} {b_path : Nat → Int32} {b_tops : Nat → Int32} {b_missed : Nat → Int32} {b_struck : Nat → Int32} {b_worstPath : Nat → Int32} {b_mostMissed : Nat → Int32} {b_mostStruck : Nat → Int32} {b_leastMissed : Nat → Int32} {b_held : Nat → Int32} {b_contents : Nat → Int64} {b_ages : Nat → Int32} {b_phase : Nat → Int32} {b_node : Nat → Int32} {b_sum : Nat → Int32} {b_saved : Nat → Int32} {b_greatest : Nat → Int32} {b_met : Nat → Int32} {b_unsure : Nat → Int32} (hn : n < 18) (hk : b_sorts n = 1) (H : post (h_sets, h_places, h_made, h_depth, h_size, h_open, h_time + b_lows n, h_chosen, h_kept, h_worst, h_best, h_worstRuns, h_worstChoices, h_ends, h_bound, h_under, h_back, b_sorts, b_lows, b_highs, b_firsts, b_seconds, b_stack, b_pathsOf, b_lengthOf, b_choicesOf, b_todo, b_cache, b_path, b_tops, b_missed, b_struck, b_worstPath, b_mostMissed, b_mostStruck, b_leastMissed, b_held, b_contents, b_ages, b_phase, b_node, b_sum, b_saved, b_greatest, b_met, b_unsure)) : wpY_begin post (h_sets, h_places, h_made, h_depth, h_size, h_open, h_time, h_chosen, h_kept, h_worst, h_best, h_worstRuns, h_worstChoices, h_ends, h_bound, h_under, h_back, b_sorts, b_lows, b_highs, b_firsts, b_seconds, b_stack, b_pathsOf, b_lengthOf, b_choicesOf, b_todo, b_cache, b_path, b_tops, b_missed, b_struck, b_worstPath, b_mostMissed, b_mostStruck, b_leastMissed, b_held, b_contents, b_ages, b_phase, b_node, b_sum, b_saved, b_greatest, b_met, b_unsure) (nI n) := by
  have c : (nI n).toNatClampNeg = n := nI_clamp (by omega)
  have i : vp_in (nI n) 36 := vp_in_nI (by omega) (by omega)
  exact And.intro i (br_f (by rw [c, hk]; decide) ⟨i, br_t (by rw [c]; exact hk) ⟨i, nm_r (e' := h_time + b_lows n) (by rw [c]) H⟩⟩)
theorem yb_seq {h_sets : Int32} {h_places : Int32} {h_made : Int32} {h_depth : Int32} {h_size : Int32} {h_open : Int32} {h_time : Int32} {h_chosen : Int32} {h_kept : Int32} {h_worst : Int32} {h_best : Int32} {h_worstRuns : Int32} {h_worstChoices : Int32} {h_ends : Int32} {h_bound : Int32} {h_under : Int32} {h_back : Int32} {b_sorts : Nat → Int32} {b_lows : Nat → Int32} {b_highs : Nat → Int32} {b_firsts : Nat → Int32} {b_seconds : Nat → Int32} {b_stack : Nat → Int32} {b_pathsOf : Nat → Int32} {b_lengthOf : Nat → Int32} {b_choicesOf : Nat → Int32} {b_todo : Nat → Int32} {b_cache : Nat → Int32} {b_path : Nat → Int32} {b_tops : Nat → Int32} {b_missed : Nat → Int32} {b_struck : Nat → Int32} {b_worstPath : Nat → Int32} {b_mostMissed : Nat → Int32} {b_mostStruck : Nat → Int32} {b_leastMissed : Nat → Int32} {b_held : Nat → Int32} {b_contents : Nat → Int64} {b_ages : Nat → Int32} {b_phase : Nat → Int32} {b_node : Nat → Int32} {b_sum : Nat → Int32} {b_saved : Nat → Int32} {b_greatest : Nat → Int32} {b_met : Nat → Int32} {b_unsure : Nat → Int32} {o : Nat} (hn : n < 18) (hk : b_sorts n = 2) (ho : o + 2 ≤ 120) (H : post (h_sets, h_places, h_made, h_depth, h_size, nI (o + 1 + 1), h_time, h_chosen, h_kept, h_worst, h_best, h_worstRuns, h_worstChoices, h_ends, h_bound, h_under, h_back, b_sorts, b_lows, b_highs, b_firsts, b_seconds, b_stack, b_pathsOf, b_lengthOf, b_choicesOf, pu_f (pu_f b_todo o (b_seconds n) 1) (o + 1) (b_firsts n) 1, b_cache, b_path, b_tops, b_missed, b_struck, b_worstPath, b_mostMissed, b_mostStruck, b_leastMissed, b_held, b_contents, b_ages, b_phase, b_node, b_sum, b_saved, b_greatest, b_met, b_unsure)) : wpY_begin post (h_sets, h_places, h_made, h_depth, h_size, nI o, h_time, h_chosen, h_kept, h_worst, h_best, h_worstRuns, h_worstChoices, h_ends, h_bound, h_under, h_back, b_sorts, b_lows, b_highs, b_firsts, b_seconds, b_stack, b_pathsOf, b_lengthOf, b_choicesOf, b_todo, b_cache, b_path, b_tops, b_missed, b_struck, b_worstPath, b_mostMissed, b_mostStruck, b_leastMissed, b_held, b_contents, b_ages, b_phase, b_node, b_sum, b_saved, b_greatest, b_met, b_unsure) (nI n) := by
  have c : (nI n).toNatClampNeg = n := nI_clamp (by omega)
  have i : vp_in (nI n) 36 := vp_in_nI (by omega) (by omega)
  refine And.intro i (br_f (by rw [c, hk]; decide) ⟨i, br_f (by rw [c, hk]; decide) ⟨i, br_t (by rw [c]; exact hk) ⟨i, ?_⟩⟩⟩)
  rw [c]
  refine yp_push (o := o) (k := 1) (h_open := h_open) (by omega) ?_
  exact And.intro i (yp_push (o := o + 1) (k := 1) (h_open := h_open) (by omega) H)
theorem yb_if {h_sets : Int32} {h_places : Int32} {h_made : Int32} {h_depth : Int32} {h_size : Int32} {h_open : Int32} {h_time : Int32} {h_chosen : Int32} {h_kept : Int32} {h_worst : Int32} {h_best : Int32} {h_worstRuns : Int32} {h_worstChoices : Int32} {h_ends : Int32} {h_bound : Int32} {h_under : Int32} {h_back : Int32} {b_sorts : Nat → Int32} {b_lows : Nat → Int32} {b_highs : Nat → Int32} {b_firsts : Nat → Int32} {b_seconds : Nat → Int32} {b_stack : Nat → Int32} {b_pathsOf : Nat → Int32} {b_lengthOf : Nat → Int32} {b_choicesOf : Nat → Int32} {b_todo : Nat → Int32} {b_cache : Nat → Int32} {b_path : Nat → Int32} {b_tops : Nat → Int32} {b_missed : Nat → Int32} {b_struck : Nat → Int32} {b_worstPath : Nat → Int32} {b_mostMissed : Nat → Int32} {b_mostStruck : Nat → Int32} {b_leastMissed : Nat → Int32} {b_held : Nat → Int32} {b_contents : Nat → Int64} {b_ages : Nat → Int32} {b_phase : Nat → Int32} {b_node : Nat → Int32} {b_sum : Nat → Int32} {b_saved : Nat → Int32} {b_greatest : Nat → Int32} {b_met : Nat → Int32} {b_unsure : Nat → Int32} {o t kept : Nat} (hn : n < 18) (hk : b_sorts n = 3) (ho : o + 1 ≤ 120) (ht : t < 20) (hkp : kept ≤ 20) (hc : h_chosen = nI t) (hkk : h_kept = nI kept)
    (H1 : ¬ t < kept → post (h_sets, h_places, h_made, h_depth, h_size, nI (o + 1), h_time, nI (t + 1), h_kept, h_worst, h_best, h_worstRuns, h_worstChoices, h_ends, h_bound, h_under, h_back, b_sorts, b_lows, b_highs, b_firsts, b_seconds, b_stack, b_pathsOf, b_lengthOf, b_choicesOf, pu_f b_todo o (b_firsts n) 1, b_cache, upd b_path t 0, upd b_tops t 1, b_missed, b_struck, b_worstPath, b_mostMissed, b_mostStruck, b_leastMissed, b_held, b_contents, b_ages, b_phase, b_node, b_sum, b_saved, b_greatest, b_met, b_unsure))
    (H2 : t < kept → post (h_sets, h_places, h_made, h_depth, h_size, nI (o + 1), h_time, nI (t + 1), h_kept, h_worst, h_best, h_worstRuns, h_worstChoices, h_ends, h_bound, h_under, h_back, b_sorts, b_lows, b_highs, b_firsts, b_seconds, b_stack, b_pathsOf, b_lengthOf, b_choicesOf, pu_f b_todo o (if b_path t = 0 then b_firsts n else b_seconds n) 1, b_cache, b_path, upd b_tops t 1, b_missed, b_struck, b_worstPath, b_mostMissed, b_mostStruck, b_leastMissed, b_held, b_contents, b_ages, b_phase, b_node, b_sum, b_saved, b_greatest, b_met, b_unsure)) : wpY_begin post (h_sets, h_places, h_made, h_depth, h_size, nI o, h_time, h_chosen, h_kept, h_worst, h_best, h_worstRuns, h_worstChoices, h_ends, h_bound, h_under, h_back, b_sorts, b_lows, b_highs, b_firsts, b_seconds, b_stack, b_pathsOf, b_lengthOf, b_choicesOf, b_todo, b_cache, b_path, b_tops, b_missed, b_struck, b_worstPath, b_mostMissed, b_mostStruck, b_leastMissed, b_held, b_contents, b_ages, b_phase, b_node, b_sum, b_saved, b_greatest, b_met, b_unsure) (nI n) := by
  have c : (nI n).toNatClampNeg = n := nI_clamp (by omega)
  have i : vp_in (nI n) 36 := vp_in_nI (by omega) (by omega)
  refine And.intro i (br_f (by rw [c, hk]; decide) ⟨i, br_f (by rw [c, hk]; decide) ⟨i, br_f (by rw [c, hk]; decide) ⟨i, br_t (by rw [c]; exact hk) ?_⟩⟩⟩)
  refine yh_choose ht hkp hc hkk (fun z => br_t rfl ⟨i, ?_⟩) (fun z => br_c (fun y => ⟨i, ?_⟩) (fun y => ⟨i, ?_⟩))
  · rw [c]
    exact yp_push (o := o) (k := 1) (h_open := h_open) ho (H1 z)
  · have w := H2 z
    rw [if_pos y] at w
    rw [c]
    exact yp_push (o := o) (k := 1) (h_open := h_open) ho w
  · have w := H2 z
    rw [if_neg y] at w
    rw [c]
    exact yp_push (o := o) (k := 1) (h_open := h_open) ho w
theorem yb_loop {h_sets : Int32} {h_places : Int32} {h_made : Int32} {h_depth : Int32} {h_size : Int32} {h_open : Int32} {h_time : Int32} {h_chosen : Int32} {h_kept : Int32} {h_worst : Int32} {h_best : Int32} {h_worstRuns : Int32} {h_worstChoices : Int32} {h_ends : Int32} {h_bound : Int32} {h_under : Int32} {h_back : Int32} {b_sorts : Nat → Int32} {b_lows : Nat → Int32} {b_highs : Nat → Int32} {b_firsts : Nat → Int32} {b_seconds : Nat → Int32} {b_stack : Nat → Int32} {b_pathsOf : Nat → Int32} {b_lengthOf : Nat → Int32} {b_choicesOf : Nat → Int32} {b_todo : Nat → Int32} {b_cache : Nat → Int32} {b_path : Nat → Int32} {b_tops : Nat → Int32} {b_missed : Nat → Int32} {b_struck : Nat → Int32} {b_worstPath : Nat → Int32} {b_mostMissed : Nat → Int32} {b_mostStruck : Nat → Int32} {b_leastMissed : Nat → Int32} {b_held : Nat → Int32} {b_contents : Nat → Int64} {b_ages : Nat → Int32} {b_phase : Nat → Int32} {b_node : Nat → Int32} {b_sum : Nat → Int32} {b_saved : Nat → Int32} {b_greatest : Nat → Int32} {b_met : Nat → Int32} {b_unsure : Nat → Int32} {o t kept k : Nat} (hn : n < 18) (hk : b_sorts n = 4) (ho : o + k ≤ 120) (ht : t < 20) (hkp : kept ≤ 20) (hc : h_chosen = nI t) (hkk : h_kept = nI kept) (hl : ¬ b_highs n ≤ b_lows n)
    (H1 : ¬ t < kept → b_lows n = nI k ∧ post (h_sets, h_places, h_made, h_depth, h_size, nI (o + k), h_time, nI (t + 1), h_kept, h_worst, h_best, h_worstRuns, h_worstChoices, h_ends, h_bound, h_under, h_back, b_sorts, b_lows, b_highs, b_firsts, b_seconds, b_stack, b_pathsOf, b_lengthOf, b_choicesOf, pu_f b_todo o (b_firsts n) k, b_cache, upd b_path t (b_lows n), upd b_tops t (b_highs n), b_missed, b_struck, b_worstPath, b_mostMissed, b_mostStruck, b_leastMissed, b_held, b_contents, b_ages, b_phase, b_node, b_sum, b_saved, b_greatest, b_met, b_unsure))
    (H2 : t < kept → b_path t = nI k ∧ post (h_sets, h_places, h_made, h_depth, h_size, nI (o + k), h_time, nI (t + 1), h_kept, h_worst, h_best, h_worstRuns, h_worstChoices, h_ends, h_bound, h_under, h_back, b_sorts, b_lows, b_highs, b_firsts, b_seconds, b_stack, b_pathsOf, b_lengthOf, b_choicesOf, pu_f b_todo o (b_firsts n) k, b_cache, b_path, upd b_tops t (b_highs n), b_missed, b_struck, b_worstPath, b_mostMissed, b_mostStruck, b_leastMissed, b_held, b_contents, b_ages, b_phase, b_node, b_sum, b_saved, b_greatest, b_met, b_unsure)) : wpY_begin post (h_sets, h_places, h_made, h_depth, h_size, nI o, h_time, h_chosen, h_kept, h_worst, h_best, h_worstRuns, h_worstChoices, h_ends, h_bound, h_under, h_back, b_sorts, b_lows, b_highs, b_firsts, b_seconds, b_stack, b_pathsOf, b_lengthOf, b_choicesOf, b_todo, b_cache, b_path, b_tops, b_missed, b_struck, b_worstPath, b_mostMissed, b_mostStruck, b_leastMissed, b_held, b_contents, b_ages, b_phase, b_node, b_sum, b_saved, b_greatest, b_met, b_unsure) (nI n) := by
  have c : (nI n).toNatClampNeg = n := nI_clamp (by omega)
  have i : vp_in (nI n) 36 := vp_in_nI (by omega) (by omega)
  refine And.intro i (br_f (by rw [c, hk]; decide) ⟨i, br_f (by rw [c, hk]; decide) ⟨i, br_f (by rw [c, hk]; decide) ⟨i, br_f (by rw [c, hk]; decide) ⟨i, i, br_f (by rw [c]; exact hl) ⟨i, i, ?_⟩⟩⟩⟩⟩)
  rw [c]
  refine yh_choose ht hkp hc hkk (fun z => And.intro i ?_) (fun z => And.intro i ?_)
  · obtain ⟨e, w⟩ := H1 z
    rw [c]
    have := yp_push (o := o) (k := k) (x := b_firsts n) (h_open := h_open) ho w
    rw [e] at this ⊢
    exact this
  · obtain ⟨e, w⟩ := H2 z
    rw [c, e]
    exact yp_push (o := o) (k := k) (h_open := h_open) ho w
theorem yb_fix {h_sets : Int32} {h_places : Int32} {h_made : Int32} {h_depth : Int32} {h_size : Int32} {h_open : Int32} {h_time : Int32} {h_chosen : Int32} {h_kept : Int32} {h_worst : Int32} {h_best : Int32} {h_worstRuns : Int32} {h_worstChoices : Int32} {h_ends : Int32} {h_bound : Int32} {h_under : Int32} {h_back : Int32} {b_sorts : Nat → Int32} {b_lows : Nat → Int32} {b_highs : Nat → Int32} {b_firsts : Nat → Int32} {b_seconds : Nat → Int32} {b_stack : Nat → Int32} {b_pathsOf : Nat → Int32} {b_lengthOf : Nat → Int32} {b_choicesOf : Nat → Int32} {b_todo : Nat → Int32} {b_cache : Nat → Int32} {b_path : Nat → Int32} {b_tops : Nat → Int32} {b_missed : Nat → Int32} {b_struck : Nat → Int32} {b_worstPath : Nat → Int32} {b_mostMissed : Nat → Int32} {b_mostStruck : Nat → Int32} {b_leastMissed : Nat → Int32} {b_held : Nat → Int32} {b_contents : Nat → Int64} {b_ages : Nat → Int32} {b_phase : Nat → Int32} {b_node : Nat → Int32} {b_sum : Nat → Int32} {b_saved : Nat → Int32} {b_greatest : Nat → Int32} {b_met : Nat → Int32} {b_unsure : Nat → Int32} {o k : Nat} (hn : n < 18) (hk : b_sorts n = 4) (ho : o + k ≤ 120) (hl : b_highs n ≤ b_lows n) (e : b_lows n = nI k) (H : post (h_sets, h_places, h_made, h_depth, h_size, nI (o + k), h_time, h_chosen, h_kept, h_worst, h_best, h_worstRuns, h_worstChoices, h_ends, h_bound, h_under, h_back, b_sorts, b_lows, b_highs, b_firsts, b_seconds, b_stack, b_pathsOf, b_lengthOf, b_choicesOf, pu_f b_todo o (b_firsts n) k, b_cache, b_path, b_tops, b_missed, b_struck, b_worstPath, b_mostMissed, b_mostStruck, b_leastMissed, b_held, b_contents, b_ages, b_phase, b_node, b_sum, b_saved, b_greatest, b_met, b_unsure)) : wpY_begin post (h_sets, h_places, h_made, h_depth, h_size, nI o, h_time, h_chosen, h_kept, h_worst, h_best, h_worstRuns, h_worstChoices, h_ends, h_bound, h_under, h_back, b_sorts, b_lows, b_highs, b_firsts, b_seconds, b_stack, b_pathsOf, b_lengthOf, b_choicesOf, b_todo, b_cache, b_path, b_tops, b_missed, b_struck, b_worstPath, b_mostMissed, b_mostStruck, b_leastMissed, b_held, b_contents, b_ages, b_phase, b_node, b_sum, b_saved, b_greatest, b_met, b_unsure) (nI n) := by
  have c : (nI n).toNatClampNeg = n := nI_clamp (by omega)
  have i : vp_in (nI n) 36 := vp_in_nI (by omega) (by omega)
  refine And.intro i (br_f (by rw [c, hk]; decide) ⟨i, br_f (by rw [c, hk]; decide) ⟨i, br_f (by rw [c, hk]; decide) ⟨i, br_f (by rw [c, hk]; decide) ⟨i, i, br_t (by rw [c]; exact hl) ⟨i, And.intro i ?_⟩⟩⟩⟩⟩)
  rw [c, e]
  exact yp_push (o := o) (k := k) (h_open := h_open) ho H
end
theorem yb_if2 {h_sets : Int32} {h_places : Int32} {h_made : Int32} {h_depth : Int32} {h_size : Int32} {h_open : Int32} {h_time : Int32} {h_chosen : Int32} {h_kept : Int32} {h_worst : Int32} {h_best : Int32} {h_worstRuns : Int32} {h_worstChoices : Int32} {h_ends : Int32} {h_bound : Int32} {h_under : Int32} {h_back : Int32} {b_sorts : Nat → Int32} {b_lows : Nat → Int32} {b_highs : Nat → Int32} {b_firsts : Nat → Int32} {b_seconds : Nat → Int32} {b_stack : Nat → Int32} {b_pathsOf : Nat → Int32} {b_lengthOf : Nat → Int32} {b_choicesOf : Nat → Int32} {b_todo : Nat → Int32} {b_cache : Nat → Int32} {b_path : Nat → Int32} {b_tops : Nat → Int32} {b_missed : Nat → Int32} {b_struck : Nat → Int32} {b_worstPath : Nat → Int32} {b_mostMissed : Nat → Int32} {b_mostStruck : Nat → Int32} {b_leastMissed : Nat → Int32} {b_held : Nat → Int32} {b_contents : Nat → Int64} {b_ages : Nat → Int32} {b_phase : Nat → Int32} {b_node : Nat → Int32} {b_sum : Nat → Int32} {b_saved : Nat → Int32} {b_greatest : Nat → Int32} {b_met : Nat → Int32} {b_unsure : Nat → Int32} {post : SY → Prop} {n o t kept k : Nat} {ypa' : Nat → Int32} (hn : n < 18) (hk : b_sorts n = 3) (ho : o + 1 ≤ 120) (ht : t < 20) (hkp : kept ≤ 20) (hc : h_chosen = nI t) (hkk : h_kept = nI kept) (hk2 : k < 2 ^ 31)
    (hd : (¬ t < kept ∧ ypa' = upd b_path t 0 ∧ k = 0) ∨ (t < kept ∧ ypa' = b_path ∧ b_path t = nI k))
    (H : post (h_sets, h_places, h_made, h_depth, h_size, nI (o + 1), h_time, nI (t + 1), h_kept, h_worst, h_best, h_worstRuns, h_worstChoices, h_ends, h_bound, h_under, h_back, b_sorts, b_lows, b_highs, b_firsts, b_seconds, b_stack, b_pathsOf, b_lengthOf, b_choicesOf, pu_f b_todo o (if k = 0 then b_firsts n else b_seconds n) 1, b_cache, ypa', upd b_tops t 1, b_missed, b_struck, b_worstPath, b_mostMissed, b_mostStruck, b_leastMissed, b_held, b_contents, b_ages, b_phase, b_node, b_sum, b_saved, b_greatest, b_met, b_unsure)) : wpY_begin post (h_sets, h_places, h_made, h_depth, h_size, nI o, h_time, h_chosen, h_kept, h_worst, h_best, h_worstRuns, h_worstChoices, h_ends, h_bound, h_under, h_back, b_sorts, b_lows, b_highs, b_firsts, b_seconds, b_stack, b_pathsOf, b_lengthOf, b_choicesOf, b_todo, b_cache, b_path, b_tops, b_missed, b_struck, b_worstPath, b_mostMissed, b_mostStruck, b_leastMissed, b_held, b_contents, b_ages, b_phase, b_node, b_sum, b_saved, b_greatest, b_met, b_unsure) (nI n) := by
  rcases hd with ⟨d1, d2, d3⟩ | ⟨d1, d2, d3⟩
  · subst d2 d3
    refine yb_if (h_open := h_open) hn hk ho ht hkp hc hkk (fun _ => ?_) (fun y => absurd y d1)
    rw [if_pos rfl] at H
    exact H
  · have z0 : (if b_path t = 0 then b_firsts n else b_seconds n) = (if k = 0 then b_firsts n else b_seconds n) := by
      by_cases y : k = 0
      · rw [if_pos y, if_pos (by rw [d3, y]; rfl)]
      · rw [if_neg y, if_neg (by rw [d3]; exact nI_ne0 (by omega) hk2)]
    rw [d2] at H
    refine yb_if (h_open := h_open) hn hk ho ht hkp hc hkk (fun y => absurd d1 y) (fun _ => ?_)
    rw [z0]
    exact H
theorem yb_loop2 {h_sets : Int32} {h_places : Int32} {h_made : Int32} {h_depth : Int32} {h_size : Int32} {h_open : Int32} {h_time : Int32} {h_chosen : Int32} {h_kept : Int32} {h_worst : Int32} {h_best : Int32} {h_worstRuns : Int32} {h_worstChoices : Int32} {h_ends : Int32} {h_bound : Int32} {h_under : Int32} {h_back : Int32} {b_sorts : Nat → Int32} {b_lows : Nat → Int32} {b_highs : Nat → Int32} {b_firsts : Nat → Int32} {b_seconds : Nat → Int32} {b_stack : Nat → Int32} {b_pathsOf : Nat → Int32} {b_lengthOf : Nat → Int32} {b_choicesOf : Nat → Int32} {b_todo : Nat → Int32} {b_cache : Nat → Int32} {b_path : Nat → Int32} {b_tops : Nat → Int32} {b_missed : Nat → Int32} {b_struck : Nat → Int32} {b_worstPath : Nat → Int32} {b_mostMissed : Nat → Int32} {b_mostStruck : Nat → Int32} {b_leastMissed : Nat → Int32} {b_held : Nat → Int32} {b_contents : Nat → Int64} {b_ages : Nat → Int32} {b_phase : Nat → Int32} {b_node : Nat → Int32} {b_sum : Nat → Int32} {b_saved : Nat → Int32} {b_greatest : Nat → Int32} {b_met : Nat → Int32} {b_unsure : Nat → Int32} {post : SY → Prop} {n o t kept k : Nat} {ypa' : Nat → Int32} (hn : n < 18) (hk : b_sorts n = 4) (ho : o + k ≤ 120) (ht : t < 20) (hkp : kept ≤ 20) (hc : h_chosen = nI t) (hkk : h_kept = nI kept) (hl : ¬ b_highs n ≤ b_lows n)
    (hd : (¬ t < kept ∧ ypa' = upd b_path t (b_lows n) ∧ b_lows n = nI k) ∨ (t < kept ∧ ypa' = b_path ∧ b_path t = nI k))
    (H : post (h_sets, h_places, h_made, h_depth, h_size, nI (o + k), h_time, nI (t + 1), h_kept, h_worst, h_best, h_worstRuns, h_worstChoices, h_ends, h_bound, h_under, h_back, b_sorts, b_lows, b_highs, b_firsts, b_seconds, b_stack, b_pathsOf, b_lengthOf, b_choicesOf, pu_f b_todo o (b_firsts n) k, b_cache, ypa', upd b_tops t (b_highs n), b_missed, b_struck, b_worstPath, b_mostMissed, b_mostStruck, b_leastMissed, b_held, b_contents, b_ages, b_phase, b_node, b_sum, b_saved, b_greatest, b_met, b_unsure)) : wpY_begin post (h_sets, h_places, h_made, h_depth, h_size, nI o, h_time, h_chosen, h_kept, h_worst, h_best, h_worstRuns, h_worstChoices, h_ends, h_bound, h_under, h_back, b_sorts, b_lows, b_highs, b_firsts, b_seconds, b_stack, b_pathsOf, b_lengthOf, b_choicesOf, b_todo, b_cache, b_path, b_tops, b_missed, b_struck, b_worstPath, b_mostMissed, b_mostStruck, b_leastMissed, b_held, b_contents, b_ages, b_phase, b_node, b_sum, b_saved, b_greatest, b_met, b_unsure) (nI n) := by
  rcases hd with ⟨d1, d2, d3⟩ | ⟨d1, d2, d3⟩
  · subst d2
    exact yb_loop (h_open := h_open) hn hk ho ht hkp hc hkk hl (fun _ => ⟨d3, H⟩) (fun y => absurd y d1)
  · subst d2
    exact yb_loop (h_open := h_open) hn hk ho ht hkp hc hkk hl (fun y => absurd d1 y) (fun _ => ⟨d3, H⟩)
