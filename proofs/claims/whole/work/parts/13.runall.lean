set_option maxHeartbeats 4000000 in
theorem rl_all {g : Nat → Nat → Nat} {root w s kept R : Nat} {q0 : Nat → Int32} {f_setBits : Int32} {f_placeCount : Int32} {f_made : Int32} {f_height : Int32} {f_pathCount : Int32} {f_greatestLength : Int32} {f_worstTime : Int32} {f_bestTime : Int32} {f_worstCount : Int32} {f_programBound : Int32} {f_endingCount : Int32} {a_kind : Nat → Int32} {a_first : Nat → Int32} {a_second : Nat → Int32} {a_low : Nat → Int32} {a_high : Nat → Int32} {a_parent : Nat → Int32} {a_pathsOf : Nat → Int32} {a_lengthOf : Nat → Int32} {a_choicesOf : Nat → Int32} {a_stack : Nat → Int32} {a_worstPath : Nat → Int32} {a_sureness : Nat → Int32} {a_mostMisses : Nat → Int32} {a_mostHits : Nat → Int32} {a_leastMisses : Nat → Int32} {a_endings : Nat → Int64} {a_runsHolding : Nat → Int32} {a_table : Nat → Int32} {a_before : Nat → Int32} {a_behind : Nat → Int32} {h_sets : Int32} {h_places : Int32} {h_made : Int32} {h_depth : Int32} {h_size : Int32} {h_kept : Int32} {h_worst : Int32} {h_best : Int32} {h_worstRuns : Int32} {h_worstChoices : Int32} {h_ends : Int32} {h_bound : Int32} {h_under : Int32} {h_back : Int32} {b_sorts : Nat → Int32} {b_lows : Nat → Int32} {b_highs : Nat → Int32} {b_firsts : Nat → Int32} {b_seconds : Nat → Int32} {b_stack : Nat → Int32} {b_pathsOf : Nat → Int32} {b_lengthOf : Nat → Int32} {b_choicesOf : Nat → Int32} {b_worstPath : Nat → Int32} {b_mostMissed : Nat → Int32} {b_mostStruck : Nat → Int32} {b_leastMissed : Nat → Int32} {b_held : Nat → Int32} {b_contents : Nat → Int64} {b_ages : Nat → Int32} {b_phase : Nat → Int32} {b_node : Nat → Int32} {b_sum : Nat → Int32} {b_saved : Nat → Int32} {b_greatest : Nat → Int32} {b_met : Nat → Int32} {b_unsure : Nat → Int32}
    (T : pg_t g (root + 1)) (hr : root < 18) (hw0 : 0 < w) (hw : w ≤ 4) (hs0 : 0 < s) (hs : s ≤ 4) (hb : ∀ x y, x < 12 → y < 12 → ((nI x &&& f_setBits) = (nI y &&& f_setBits) ↔ x % s = y % s))
    (hpc : f_placeCount = nI w) (hsets : h_sets = nI s) (hpl : h_places = nI w) (hkk : h_kept = nI kept)
    (XT : ∀ n, n ≤ root → xt_n g a_kind a_first a_second a_low a_high a_parent n) (YT : ∀ n, n ≤ root → yt_n g 0 b_sorts b_lows b_highs b_firsts b_seconds n) (Pr : lm_pre g q0 root kept R) :
    ∀ (N st : Nat) (at_ f_chosen f_time h_open h_time h_chosen : Int32) (a_rounds a_path a_pathTop a_cache a_runMisses a_runHits b_path b_tops b_cache b_missed b_struck b_todo : Nat → Int32),
      rl_I g root w s kept q0 N st at_ f_chosen f_time h_open h_time h_chosen a_rounds a_path a_pathTop a_cache a_runMisses a_runHits b_path b_tops b_cache b_missed b_struck b_todo →
      rl_G g root w s kept q0 f_setBits f_placeCount f_made f_height f_pathCount f_greatestLength f_worstTime f_bestTime f_worstCount f_programBound f_endingCount f_chosen f_time a_kind a_first a_second a_low a_high a_parent a_pathsOf a_lengthOf a_choicesOf a_stack a_worstPath a_sureness a_mostMisses a_mostHits a_leastMisses a_endings a_runsHolding a_rounds a_path a_pathTop a_cache a_runMisses a_runHits a_table a_before a_behind h_sets h_places h_made h_depth h_size h_open h_time h_chosen h_kept h_worst h_best h_worstRuns h_worstChoices h_ends h_bound h_under h_back b_sorts b_lows b_highs b_firsts b_seconds b_stack b_pathsOf b_lengthOf b_choicesOf b_todo b_cache b_path b_tops b_missed b_struck b_worstPath b_mostMissed b_mostStruck b_leastMissed b_held b_contents b_ages b_phase b_node b_sum b_saved b_greatest b_met b_unsure at_ st := by
  intro N
  induction N with
  | zero =>
    intro st at_ f_chosen f_time h_open h_time h_chosen a_rounds a_path a_pathTop a_cache a_runMisses a_runHits b_path b_tops b_cache b_missed b_struck b_todo H
    exfalso
    obtain ⟨i, t, c, tt, j, n, L, K, I, Ch, Td, -, -, -, -, -, -, -, ⟨-, e, h⟩ | ⟨-, -, h⟩⟩ := H
    · have := pg_M1 (T n (by have := (ch_le Ch).1; omega))
      subst e
      dsimp only [lm_m] at h
      omega
    · omega
  | succ N ih =>
    intro st at_ f_chosen f_time h_open h_time h_chosen a_rounds a_path a_pathTop a_cache a_runMisses a_runHits b_path b_tops b_cache b_missed b_struck b_todo H
    obtain ⟨i, t, c, tt, j, n, L, K, I, Ch, Td, e1, e2, e3, e4, e5, hT, hst, P⟩ := H
    subst e1 e2 e3 e4 e5
    obtain ⟨hnr, hKl⟩ := ch_le Ch
    have hn : n < 18 := by omega
    have hkp : kept ≤ 20 := I.2.2.2.2.2.2.2.2
    rcases P with ⟨e1, e2, hN⟩ | ⟨e1, e2, hN⟩
    · subst e1 e2
      obtain ⟨Td1, Td2⟩ := Td
      have Pg := T n (by omega)
      have PgC := Pg
      obtain ⟨x1, x2, x3, x4, x5, x6⟩ := XT n hnr
      obtain ⟨y1, y2, y3, y4, y5⟩ := YT n hnr
      rw [Nat.zero_add] at y1 y2 y3 y4 y5
      dsimp only [lm_m] at hT hN
      have hKm : K.length < 118 := by omega
      obtain ⟨-, -, k | k | k | k | k⟩ := Pg
      · -- an access
        obtain ⟨k0, k1, -, -, -, -, -, -, km⟩ := k
        rw [k0] at x1 y1
        obtain ⟨a, ha, hag, hce⟩ := I.2.2.2.2.2.2.1.1 (g 1 n) k1
        have nc : ¬ lm_ch g n := by unfold lm_ch; omega
        have yl := y2 (by omega)
        by_cases z : a < w
        · have R' := cr_acc (ag' := ac_a s (g 1 n) a_cache) (ce' := sh_g b_cache (4 * (g 1 n % s)) a (nI (g 1 n))) (po := a) I.2.2.2.2.2.2.1 hw0 hw hs0 hs k1 hag ha (ac_val hw hag ha) (by rw [if_pos z]) (fun b p hb hp => sh_val b p hb hp (by omega))
          refine rl_step (at2 := nI n ^^^ (-1)) (xch := nI t) (xtm := nI (tt + 1)) (rd := a_rounds) (pa := a_path) (pt := a_pathTop) (ca := ac_a s (g 1 n) a_cache) (mi := a_runMisses) (hi := upd a_runHits n (a_runHits n + 1)) (yop := nI K.length) (ytm := nI (tt + 1)) (ych := nI t) (todo := b_todo) (ypa := b_path) (yto := b_tops) (yca := sh_g b_cache (4 * (g 1 n % s)) a (nI (g 1 n))) (ymi := b_missed) (yst := upd b_struck n (b_struck n + 1)) (fun post F h => xd_in hn hr (by omega) ?_) (fun F => ⟨F + 1, fun post h => yd_in (h_open := 0) (by omega) Td1 ?_⟩) (ih _ _ _ _ _ _ _ _ _ _ _ _ _ _ _ _ _ _ _ ⟨i + 1, t, c, tt + 1, j, n, K, K, rn_step PgC I nc (lm_leaf (by omega)) R' (fun x hx => ?_), Ch, Td2, rfl, rfl, rfl, rfl, rfl, by omega, by omega, Or.inr ⟨rfl, rfl, by omega⟩⟩)
          · refine xe_acc (s := s) hn x1 k1 hb x2 (fun _ => nm_r (nI_1 st) ?_) (fun y => absurd y (by rw [hpc, hag]; exact nI_ge z (by omega)))
            rw [nI_1]
            exact h
          · refine yb_acc hn y1 ?_
            rw [yl]
            refine yt_touch hn k1 hs0 hs hw0 hw hsets hpl ha hce (fun _ => ?_) (fun y => absurd z y)
            rw [nI_1]
            exact h
          · refine ⟨(I.2.2.2.2.2.2.2.1 x hx).1, ?_⟩
            by_cases y : x = n
            · subst y; rw [us_s, us_s, (I.2.2.2.2.2.2.2.1 x hx).2]
            · rw [us_n y, us_n y]; exact (I.2.2.2.2.2.2.2.1 x hx).2
        · have R' := cr_acc (ag' := ac_a s (g 1 n) a_cache) (ce' := sh_g b_cache (4 * (g 1 n % s)) (w - 1) (nI (g 1 n))) (po := w - 1) I.2.2.2.2.2.2.1 hw0 hw hs0 hs k1 hag ha (ac_val hw hag ha) (by rw [if_neg z]) (fun b p hb hp => sh_val b p hb hp (by omega))
          have e10 : nI tt + 10 = nI (tt + 10) := nI_add tt 10
          refine rl_step (at2 := nI n ^^^ (-1)) (xch := nI t) (xtm := nI (tt + 10)) (rd := a_rounds) (pa := a_path) (pt := a_pathTop) (ca := ac_a s (g 1 n) a_cache) (mi := upd a_runMisses n (a_runMisses n + 1)) (hi := a_runHits) (yop := nI K.length) (ytm := nI (tt + 10)) (ych := nI t) (todo := b_todo) (ypa := b_path) (yto := b_tops) (yca := sh_g b_cache (4 * (g 1 n % s)) (w - 1) (nI (g 1 n))) (ymi := upd b_missed n (b_missed n + 1)) (yst := b_struck) (fun post F h => xd_in hn hr (by omega) ?_) (fun F => ⟨F + 1, fun post h => yd_in (h_open := 0) (by omega) Td1 ?_⟩) (ih _ _ _ _ _ _ _ _ _ _ _ _ _ _ _ _ _ _ _ ⟨i + 1, t, c, tt + 10, j, n, K, K, rn_step PgC I nc (lm_leaf (by omega)) R' (fun x hx => ?_), Ch, Td2, rfl, rfl, rfl, rfl, rfl, by omega, by omega, Or.inr ⟨rfl, rfl, by omega⟩⟩)
          · refine xe_acc (s := s) hn x1 k1 hb x2 (fun y => absurd (by rw [hpc, hag]; exact nI_le (by omega) (by omega)) y) (fun _ => nm_r (nI_1 st) ?_)
            rw [e10]
            exact h
          · refine yb_acc hn y1 ?_
            rw [yl]
            refine yt_touch hn k1 hs0 hs hw0 hw hsets hpl ha hce (fun y => absurd y z) (fun _ => ?_)
            rw [e10]
            exact h
          · refine ⟨?_, (I.2.2.2.2.2.2.2.1 x hx).2⟩
            by_cases y : x = n
            · subst y; rw [us_s, us_s, (I.2.2.2.2.2.2.2.1 x hx).1]
            · rw [us_n y, us_n y]; exact (I.2.2.2.2.2.2.2.1 x hx).1
      · -- work
        obtain ⟨k0, k1, -, -, -, -, -, -, km⟩ := k
        rw [k0] at x1 y1
        have nc : ¬ lm_ch g n := by unfold lm_ch; omega
        have yl := y2 (by omega)
        refine rl_step (at2 := nI n ^^^ (-1)) (xch := nI t) (xtm := nI (tt + g 1 n)) (rd := a_rounds) (pa := a_path) (pt := a_pathTop) (ca := a_cache) (mi := a_runMisses) (hi := a_runHits) (yop := nI K.length) (ytm := nI (tt + g 1 n)) (ych := nI t) (todo := b_todo) (ypa := b_path) (yto := b_tops) (yca := b_cache) (ymi := b_missed) (yst := b_struck) (fun post F h => xd_in hn hr (by omega) ?_) (fun F => ⟨F + 1, fun post h => yd_in (h_open := 0) (by omega) Td1 ?_⟩) (ih _ _ _ _ _ _ _ _ _ _ _ _ _ _ _ _ _ _ _ ⟨i + 1, t, c, tt + g 1 n, j, n, K, K, rn_step PgC I nc (lm_leaf (by omega)) I.2.2.2.2.2.2.1 I.2.2.2.2.2.2.2.1, Ch, Td2, rfl, rfl, rfl, rfl, rfl, by omega, by omega, Or.inr ⟨rfl, rfl, by omega⟩⟩)
        · refine xe_work hn x1 (nm_r (nI_1 st) ?_)
          rw [x2, nI_add]
          exact h
        · refine yb_work hn y1 ?_
          rw [yl, nI_add]
          exact h
      · -- seq
        obtain ⟨k0, k1, k2, -, -, -, -, -, -, -, km⟩ := k
        rw [k0] at x1 y1
        have nc : ¬ lm_ch g n := by unfold lm_ch; omega
        have yf := y3 (by omega)
        have ys := y4 (by omega)
        refine rl_step (at2 := nI (g 1 n)) (xch := nI t) (xtm := nI tt) (rd := a_rounds) (pa := a_path) (pt := a_pathTop) (ca := a_cache) (mi := a_runMisses) (hi := a_runHits) (yop := nI (K.length + 1 + 1)) (ytm := nI tt) (ych := nI t) (todo := pu_f (pu_f b_todo K.length (b_seconds n) 1) (K.length + 1) (b_firsts n) 1) (ypa := b_path) (yto := b_tops) (yca := b_cache) (ymi := b_missed) (yst := b_struck) (fun post F h => xd_in hn hr (by omega) ?_) (fun F => ⟨F + 1, fun post h => yd_in (h_open := 0) (by omega) Td1 ?_⟩) (ih _ _ _ _ _ _ _ _ _ _ _ _ _ _ _ _ _ _ _ ⟨i + 1, t, c, tt, j + 1, g 1 n, g 1 n :: g 2 n :: K, g 2 n :: K, rn_step PgC I nc (lm_seq k0) I.2.2.2.2.2.2.1 I.2.2.2.2.2.2.2.1, ⟨n, K, by omega, hnr, Ch, Or.inl ⟨k0, rfl, rfl⟩⟩, td_push (td_push Td2 rfl ys) rfl yf, rfl, rfl, rfl, rfl, rfl, by dsimp only [lm_m]; omega, by omega, Or.inl ⟨rfl, rfl, by dsimp only [lm_m]; omega⟩⟩)
        · refine xe_seq hn x1 (nm_r (nI_1 st) ?_)
          rw [x2]
          exact h
        · exact yb_seq (h_open := 0) hn y1 (by omega) h
      · -- if
        obtain ⟨k0, k1, k2, -, -, kl, kh, -, -, -, km⟩ := k
        rw [k0] at x1 y1
        have hc : lm_ch g n := Or.inl k0
        have yf := y3 (by omega)
        have ys := y4 (by omega)
        have xs := (x6 (by omega)).1
        obtain ⟨q, pa', ypa', q1, q2, q4, ht, qe, qx, qy, qI⟩ := rn_pick PgC I Pr hc
        rw [kl] at x3
        rw [kh] at x4
        have hl : ¬ a_low n = a_high n := by rw [x3, x4]; decide
        have qx' : (a_path t = -4 ∧ pa' = upd a_path t (a_low n) ∧ a_low n = nI q) ∨ (¬ a_path t = -4 ∧ pa' = a_path ∧ a_path t = nI q) := by
          rcases qx with ⟨a, b, c⟩ | h
          · exact Or.inl ⟨a, by rw [b, kl, x3], by rw [x3, ← c, kl]⟩
          · exact Or.inr h
        have qy' : (¬ t < kept ∧ ypa' = upd b_path t 0 ∧ q = 0) ∨ (t < kept ∧ ypa' = b_path ∧ b_path t = nI q) := by
          rcases qy with ⟨a, b, c⟩ | h
          · exact Or.inl ⟨a, by rw [b, kl]; rfl, by omega⟩
          · exact Or.inr h
        rw [kh] at qI q2
        by_cases z : q = 0
        · have nx := qI _ _ (lm_if0 k0 (by rw [qe, z]; rfl))
          refine rl_step (at2 := nI (g 1 n)) (xch := nI (t + 1)) (xtm := nI tt) (rd := a_rounds) (pa := pa') (pt := upd a_pathTop t (nI 1)) (ca := a_cache) (mi := a_runMisses) (hi := a_runHits) (yop := nI (K.length + 1)) (ytm := nI tt) (ych := nI (t + 1)) (todo := pu_f b_todo K.length (b_firsts n) 1) (ypa := ypa') (yto := upd b_tops t (nI 1)) (yca := b_cache) (ymi := b_missed) (yst := b_struck) (fun post F h => xd_in hn hr (by omega) ?_) (fun F => ⟨F + 1, fun post h => yd_in (h_open := 0) (by omega) Td1 ?_⟩) (ih _ _ _ _ _ _ _ _ _ _ _ _ _ _ _ _ _ _ _ ⟨i + 1, t + 1, _, tt, j + 1, g 1 n, g 1 n :: K, K, nx, ⟨n, K, by omega, hnr, Ch, Or.inr (Or.inr (Or.inl ⟨k0, Or.inl rfl, rfl⟩))⟩, td_push Td2 rfl yf, rfl, rfl, rfl, rfl, rfl, by dsimp only [lm_m]; omega, by omega, Or.inl ⟨rfl, rfl, by dsimp only [lm_m]; omega⟩⟩)
          · refine xe_if2 hn x1 ht rfl hl (by omega) qx' (nm_r (nI_1 st) ?_)
            rw [if_pos z, x2, x4]
            exact h
          · refine yb_if2 (h_open := 0) hn y1 (by omega) ht hkp rfl hkk (by omega) qy' ?_
            rw [if_pos z]
            exact h
        · have nx := qI _ _ (lm_if1 k0 (by rw [qe]; exact nI_ne0 (by omega) (by omega)))
          refine rl_step (at2 := nI (g 2 n)) (xch := nI (t + 1)) (xtm := nI tt) (rd := a_rounds) (pa := pa') (pt := upd a_pathTop t (nI 1)) (ca := a_cache) (mi := a_runMisses) (hi := a_runHits) (yop := nI (K.length + 1)) (ytm := nI tt) (ych := nI (t + 1)) (todo := pu_f b_todo K.length (b_seconds n) 1) (ypa := ypa') (yto := upd b_tops t (nI 1)) (yca := b_cache) (ymi := b_missed) (yst := b_struck) (fun post F h => xd_in hn hr (by omega) ?_) (fun F => ⟨F + 1, fun post h => yd_in (h_open := 0) (by omega) Td1 ?_⟩) (ih _ _ _ _ _ _ _ _ _ _ _ _ _ _ _ _ _ _ _ ⟨i + 1, t + 1, _, tt, j + 1, g 2 n, g 2 n :: K, K, nx, ⟨n, K, by omega, hnr, Ch, Or.inr (Or.inr (Or.inl ⟨k0, Or.inr rfl, rfl⟩))⟩, td_push Td2 rfl ys, rfl, rfl, rfl, rfl, rfl, by dsimp only [lm_m]; omega, by omega, Or.inl ⟨rfl, rfl, by dsimp only [lm_m]; omega⟩⟩)
          · refine xe_if2 hn x1 ht rfl hl (by omega) qx' (nm_r (nI_1 st) ?_)
            rw [if_neg z, xs, x4]
            exact h
          · refine yb_if2 (h_open := 0) hn y1 (by omega) ht hkp rfl hkk (by omega) qy' ?_
            rw [if_neg z]
            exact h
      · -- loop
        obtain ⟨k0, k1, -, kl, kh, -, -, -, km⟩ := k
        rw [k0] at x1 y1
        have yf := y3 (by omega)
        obtain ⟨yl, yh⟩ := y5 k0
        have mono : ∀ k, k ≤ g 4 n → k * g 8 (g 1 n) ≤ g 4 n * g 8 (g 1 n) := fun k hk => Nat.mul_le_mul_right _ hk
        have tdk : ∀ k, td_L (pu_f b_todo K.length (b_firsts n) k) (List.replicate k (g 1 n) ++ K) := fun k => by rw [yf]; exact pu_td Td2 k
        have len : ∀ k, K.length + k = (List.replicate k (g 1 n) ++ K).length := fun k => by rw [List.length_append, List.length_replicate, Nat.add_comm]
        by_cases z : g 3 n < g 4 n
        · have hc : lm_ch g n := Or.inr ⟨by omega, z⟩
          obtain ⟨q, pa', ypa', q1, q2, q4, ht, qe, qx, qy, qI⟩ := rn_pick PgC I Pr hc
          have hl : ¬ a_low n = a_high n := by rw [x3, x4, nI_eq (by omega) (by omega)]; omega
          have hl2 : ¬ b_highs n ≤ b_lows n := by rw [yl, yh]; exact nI_ge z (by omega)
          have qx' : (a_path t = -4 ∧ pa' = upd a_path t (a_low n) ∧ a_low n = nI q) ∨ (¬ a_path t = -4 ∧ pa' = a_path ∧ a_path t = nI q) := by
            rcases qx with ⟨a, b, c⟩ | h
            · exact Or.inl ⟨a, by rw [b, x3], by rw [x3, c]⟩
            · exact Or.inr h
          have qy' : (¬ t < kept ∧ ypa' = upd b_path t (b_lows n) ∧ b_lows n = nI q) ∨ (t < kept ∧ ypa' = b_path ∧ b_path t = nI q) := by
            rcases qy with ⟨a, b, c⟩ | h
            · exact Or.inl ⟨a, by rw [b, yl], by rw [yl, c]⟩
            · exact Or.inr h
          have nx := qI _ _ (lm_lp1 k0 z qe (by omega))
          have mq := mono q q2
          cases q with
          | zero =>
            refine rl_step (at2 := nI n ^^^ (-1)) (xch := nI (t + 1)) (xtm := nI tt) (rd := upd a_rounds n 0) (pa := pa') (pt := upd a_pathTop t (nI (g 4 n))) (ca := a_cache) (mi := a_runMisses) (hi := a_runHits) (yop := nI (K.length + 0)) (ytm := nI tt) (ych := nI (t + 1)) (todo := pu_f b_todo K.length (b_firsts n) 0) (ypa := ypa') (yto := upd b_tops t (nI (g 4 n))) (yca := b_cache) (ymi := b_missed) (yst := b_struck) (fun post F h => xd_in hn hr (by omega) ?_) (fun F => ⟨F + 1, fun post h => yd_in (h_open := 0) (by omega) Td1 ?_⟩) (ih _ _ _ _ _ _ _ _ _ _ _ _ _ _ _ _ _ _ _ ⟨i + 1, t + 1, _, tt, j, n, K, K, nx, ch_upd Ch (fun p hp => us_n (by omega)), tdk 0, rfl, rfl, rfl, rfl, rfl, by omega, by omega, Or.inr ⟨rfl, rfl, by omega⟩⟩)
            · refine xe_loop2 hn x1 ht rfl hl q4 qx' (fun _ => nm_r (nI_1 st) ?_) (fun j hj => by omega)
              rw [x4]
              exact h
            · refine yb_loop2 (h_open := 0) hn y1 (by omega) ht hkp rfl hkk hl2 qy' ?_
              rw [yh]
              exact h
          | succ q =>
            refine rl_step (at2 := nI (g 1 n)) (xch := nI (t + 1)) (xtm := nI tt) (rd := upd (upd a_rounds n (nI (q + 1))) n (nI q)) (pa := pa') (pt := upd a_pathTop t (nI (g 4 n))) (ca := a_cache) (mi := a_runMisses) (hi := a_runHits) (yop := nI (K.length + (q + 1))) (ytm := nI tt) (ych := nI (t + 1)) (todo := pu_f b_todo K.length (b_firsts n) (q + 1)) (ypa := ypa') (yto := upd b_tops t (nI (g 4 n))) (yca := b_cache) (ymi := b_missed) (yst := b_struck) (fun post F h => xd_in hn hr (by omega) ?_) (fun F => ⟨F + 1, fun post h => yd_in (h_open := 0) (by omega) Td1 ?_⟩) (ih _ _ _ _ _ _ _ _ _ _ _ _ _ _ _ _ _ _ _ ⟨i + 1, t + 1, _, tt, j + 1, g 1 n, List.replicate (q + 1) (g 1 n) ++ K, List.replicate q (g 1 n) ++ K, nx, ⟨n, K, by omega, hnr, ch_upd Ch (fun p hp => by rw [us_n (by omega), us_n (by omega)]), Or.inr (Or.inr (Or.inr ⟨k0, rfl, q, by omega, us_s, rfl⟩))⟩, tdk (q + 1), by rw [len], rfl, rfl, rfl, rfl, by rw [lm_m_rep]; omega, by omega, Or.inl ⟨rfl, rfl, by rw [lm_m_rep]; omega⟩⟩)
            · refine xe_loop2 hn x1 ht rfl hl q4 qx' (fun hj => by omega) (fun j hj => nm_r (nI_1 st) ?_)
              have : j = q := by omega
              subst this
              rw [x2, x4]
              exact h
            · refine yb_loop2 (h_open := 0) hn y1 (by omega) ht hkp rfl hkk hl2 qy' ?_
              rw [yh]
              exact h
        · have e : g 3 n = g 4 n := by omega
          have nc : ¬ lm_ch g n := by unfold lm_ch; omega
          have nx := rn_step PgC I nc (lm_lp0 k0 z) I.2.2.2.2.2.2.1 I.2.2.2.2.2.2.2.1
          have hl : a_low n = a_high n := by rw [x3, x4, e]
          have hl2 : b_highs n ≤ b_lows n := by rw [yl, yh]; exact nI_le (by omega) (by omega)
          have mq := mono (g 3 n) kl
          have l4 : g 3 n ≤ 4 := by omega
          generalize g 3 n = q at *
          cases q with
          | zero =>
            refine rl_step (at2 := nI n ^^^ (-1)) (xch := nI t) (xtm := nI tt) (rd := upd a_rounds n 0) (pa := a_path) (pt := a_pathTop) (ca := a_cache) (mi := a_runMisses) (hi := a_runHits) (yop := nI (K.length + 0)) (ytm := nI tt) (ych := nI t) (todo := pu_f b_todo K.length (b_firsts n) 0) (ypa := b_path) (yto := b_tops) (yca := b_cache) (ymi := b_missed) (yst := b_struck) (fun post F h => xd_in hn hr (by omega) ?_) (fun F => ⟨F + 1, fun post h => yd_in (h_open := 0) (by omega) Td1 ?_⟩) (ih _ _ _ _ _ _ _ _ _ _ _ _ _ _ _ _ _ _ _ ⟨i + 1, t, _, tt, j, n, K, K, nx, ch_upd Ch (fun p hp => us_n (by omega)), tdk 0, rfl, rfl, rfl, rfl, rfl, by omega, by omega, Or.inr ⟨rfl, rfl, by omega⟩⟩)
            · exact xe_fix hn x1 hl l4 x3 (fun _ => nm_r (nI_1 st) h) (fun j hj => by omega)
            · exact yb_fix (h_open := 0) hn y1 (by omega) hl2 yl h
          | succ q =>
            refine rl_step (at2 := nI (g 1 n)) (xch := nI t) (xtm := nI tt) (rd := upd (upd a_rounds n (nI (q + 1))) n (nI q)) (pa := a_path) (pt := a_pathTop) (ca := a_cache) (mi := a_runMisses) (hi := a_runHits) (yop := nI (K.length + (q + 1))) (ytm := nI tt) (ych := nI t) (todo := pu_f b_todo K.length (b_firsts n) (q + 1)) (ypa := b_path) (yto := b_tops) (yca := b_cache) (ymi := b_missed) (yst := b_struck) (fun post F h => xd_in hn hr (by omega) ?_) (fun F => ⟨F + 1, fun post h => yd_in (h_open := 0) (by omega) Td1 ?_⟩) (ih _ _ _ _ _ _ _ _ _ _ _ _ _ _ _ _ _ _ _ ⟨i + 1, t, _, tt, j + 1, g 1 n, List.replicate (q + 1) (g 1 n) ++ K, List.replicate q (g 1 n) ++ K, nx, ⟨n, K, by omega, hnr, ch_upd Ch (fun p hp => by rw [us_n (by omega), us_n (by omega)]), Or.inr (Or.inr (Or.inr ⟨k0, rfl, q, by omega, us_s, rfl⟩))⟩, tdk (q + 1), by rw [len], rfl, rfl, rfl, rfl, by rw [lm_m_rep]; omega, by omega, Or.inl ⟨rfl, rfl, by rw [lm_m_rep]; omega⟩⟩)
            · refine xe_fix hn x1 hl l4 x3 (fun hj => by omega) (fun j hj => nm_r (nI_1 st) ?_)
              have : j = q := by omega
              subst this
              rw [x2]
              exact h
            · exact yb_fix (h_open := 0) hn y1 (by omega) hl2 yl h
    · subst e1 e2
      by_cases hroot : n = root
      · have hK : L = [] := by
          cases j with
          | zero => exact Ch.2
          | succ j => obtain ⟨p, K', h1, h2, -⟩ := Ch; omega
        subst hK
        subst hroot
        exact ⟨i, t, c, tt, a_rounds, a_path, a_pathTop, a_cache, a_runMisses, a_runHits, b_path, b_tops, b_cache, b_missed, b_struck, b_todo, 1, 1, I, by omega, fun post h => br_t rfl h, fun post h => br_t (by decide) h⟩
      · cases j with
        | zero => exact absurd Ch.1 hroot
        | succ j =>
          obtain ⟨p, K', hnp, hpr, Ch', hc⟩ := Ch
          have hp : p < 18 := by omega
          obtain ⟨x1, x2, x3, x4, x5, x6⟩ := XT p hpr
          have stay : ∀ F, ∃ F', ∀ post : SY → Prop, wY_run_75 post F h_sets h_places h_made h_depth h_size (nI L.length) (nI tt) (nI t) h_kept h_worst h_best h_worstRuns h_worstChoices h_ends h_bound h_under h_back b_sorts b_lows b_highs b_firsts b_seconds b_stack b_pathsOf b_lengthOf b_choicesOf b_todo b_cache b_path b_tops b_missed b_struck b_worstPath b_mostMissed b_mostStruck b_leastMissed b_held b_contents b_ages b_phase b_node b_sum b_saved b_greatest b_met b_unsure → wY_run_75 post F' h_sets h_places h_made h_depth h_size (nI L.length) (nI tt) (nI t) h_kept h_worst h_best h_worstRuns h_worstChoices h_ends h_bound h_under h_back b_sorts b_lows b_highs b_firsts b_seconds b_stack b_pathsOf b_lengthOf b_choicesOf b_todo b_cache b_path b_tops b_missed b_struck b_worstPath b_mostMissed b_mostStruck b_leastMissed b_held b_contents b_ages b_phase b_node b_sum b_saved b_greatest b_met b_unsure := fun F => ⟨F, fun _ h => h⟩
          rcases hc with ⟨k0, kn, kK⟩ | ⟨k0, kn, kK⟩ | ⟨k0, kn, kK⟩ | ⟨k0, kn, k, k3, kr, kK⟩
          · subst kn kK
            rw [k0] at x1
            refine rl_step (at2 := nI (g 2 p)) (xch := nI t) (xtm := nI tt) (rd := a_rounds) (pa := a_path) (pt := a_pathTop) (ca := a_cache) (mi := a_runMisses) (hi := a_runHits) (yop := nI (g 2 p :: K').length) (ytm := nI tt) (ych := nI t) (todo := b_todo) (ypa := b_path) (yto := b_tops) (yca := b_cache) (ymi := b_missed) (yst := b_struck) (fun post F h => xd_out hn hr hroot (by omega) ?_) stay (ih _ _ _ _ _ _ _ _ _ _ _ _ _ _ _ _ _ _ _ ⟨i, t, c, tt, j + 1, g 2 p, g 2 p :: K', K', I, ⟨p, K', ?_, hpr, Ch', Or.inr (Or.inl ⟨k0, rfl, rfl⟩)⟩, Td, rfl, rfl, rfl, rfl, rfl, hT, by omega, Or.inl ⟨rfl, rfl, by omega⟩⟩)
            · refine xl_seq1 hn hp (x5 (by omega)) x1 x2 (nm_r (nI_1 st) ?_)
              rw [(x6 (Or.inl k0)).1]
              exact h
            · obtain ⟨-, -, N | N | N | N | N⟩ := T p (by omega) <;> omega
          · subst kn kK
            rw [k0] at x1
            refine rl_step (at2 := nI p ^^^ (-1)) (xch := nI t) (xtm := nI tt) (rd := a_rounds) (pa := a_path) (pt := a_pathTop) (ca := a_cache) (mi := a_runMisses) (hi := a_runHits) (yop := nI L.length) (ytm := nI tt) (ych := nI t) (todo := b_todo) (ypa := b_path) (yto := b_tops) (yca := b_cache) (ymi := b_missed) (yst := b_struck) (fun post F h => xd_out hn hr hroot (by omega) ?_) stay (ih _ _ _ _ _ _ _ _ _ _ _ _ _ _ _ _ _ _ _ ⟨i, t, c, tt, j, p, L, L, I, Ch', Td, rfl, rfl, rfl, rfl, rfl, hT, by omega, Or.inr ⟨rfl, rfl, by omega⟩⟩)
            refine xl_up hn hp (x6 (Or.inl k0)).2 (by rw [x1]; decide) (fun _ => ?_) (nm_r (nI_1 st) h)
            have hlt : g 1 p < g 2 p := by obtain ⟨-, -, N | N | N | N | N⟩ := T p (by omega) <;> omega
            rw [x2, nI_eq (by omega) (by omega)]
            omega
          · subst kK
            rw [k0] at x1
            refine rl_step (at2 := nI p ^^^ (-1)) (xch := nI t) (xtm := nI tt) (rd := a_rounds) (pa := a_path) (pt := a_pathTop) (ca := a_cache) (mi := a_runMisses) (hi := a_runHits) (yop := nI L.length) (ytm := nI tt) (ych := nI t) (todo := b_todo) (ypa := b_path) (yto := b_tops) (yca := b_cache) (ymi := b_missed) (yst := b_struck) (fun post F h => xd_out hn hr hroot (by omega) ?_) stay (ih _ _ _ _ _ _ _ _ _ _ _ _ _ _ _ _ _ _ _ ⟨i, t, c, tt, j, p, L, L, I, Ch', Td, rfl, rfl, rfl, rfl, rfl, hT, by omega, Or.inr ⟨rfl, rfl, by omega⟩⟩)
            refine xl_up hn hp ?_ (by rw [x1]; decide) (fun y => absurd y (by rw [x1]; decide)) (nm_r (nI_1 st) h)
            rcases kn with kn | kn
            · subst kn; exact x5 (by omega)
            · subst kn; exact (x6 (Or.inr k0)).2
          · subst kn kK
            rw [k0] at x1
            cases k with
            | zero =>
              refine rl_step (at2 := nI p ^^^ (-1)) (xch := nI t) (xtm := nI tt) (rd := a_rounds) (pa := a_path) (pt := a_pathTop) (ca := a_cache) (mi := a_runMisses) (hi := a_runHits) (yop := nI (List.replicate 0 (g 1 p) ++ K').length) (ytm := nI tt) (ych := nI t) (todo := b_todo) (ypa := b_path) (yto := b_tops) (yca := b_cache) (ymi := b_missed) (yst := b_struck) (fun post F h => xd_out hn hr hroot (by omega) ?_) stay (ih _ _ _ _ _ _ _ _ _ _ _ _ _ _ _ _ _ _ _ ⟨i, t, c, tt, j, p, K', K', I, Ch', Td, rfl, rfl, rfl, rfl, rfl, hT, by omega, Or.inr ⟨rfl, rfl, ?_⟩⟩)
              · exact xl_loop hn hp (x5 (by omega)) x1 kr (by omega) (fun _ => nm_r (nI_1 st) h) (fun j hj => by omega)
              · have : lm_m g (List.replicate 0 (g 1 p) ++ K') = lm_m g K' := rfl
                omega
            | succ q =>
              refine rl_step (at2 := nI (g 1 p)) (xch := nI t) (xtm := nI tt) (rd := upd a_rounds p (nI q)) (pa := a_path) (pt := a_pathTop) (ca := a_cache) (mi := a_runMisses) (hi := a_runHits) (yop := nI (List.replicate (q + 1) (g 1 p) ++ K').length) (ytm := nI tt) (ych := nI t) (todo := b_todo) (ypa := b_path) (yto := b_tops) (yca := b_cache) (ymi := b_missed) (yst := b_struck) (fun post F h => xd_out hn hr hroot (by omega) ?_) stay (ih _ _ _ _ _ _ _ _ _ _ _ _ _ _ _ _ _ _ _ ⟨i, t, c, tt, j + 1, g 1 p, List.replicate (q + 1) (g 1 p) ++ K', List.replicate q (g 1 p) ++ K', I, ⟨p, K', hnp, hpr, ch_upd Ch' (fun x hx => us_n (by omega)), Or.inr (Or.inr (Or.inr ⟨k0, rfl, q, by omega, us_s, rfl⟩))⟩, Td, rfl, rfl, rfl, rfl, rfl, hT, by omega, Or.inl ⟨rfl, rfl, by omega⟩⟩)
              refine xl_loop hn hp (x5 (by omega)) x1 kr (by omega) (fun hj => by omega) (fun j hj => nm_r (nI_1 st) ?_)
              have : j = q := by omega
              subst this
              rw [x2]
              exact h
