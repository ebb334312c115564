/-! the tables after each of the four ways to make a statement -/
theorem gv_0 {a0 a1 a2 a3 a4 a5 a6 a7 a8 a9 : Nat} : gv_v a0 a1 a2 a3 a4 a5 a6 a7 a8 a9 0 = a0 ∧ gv_v a0 a1 a2 a3 a4 a5 a6 a7 a8 a9 1 = a1 ∧ gv_v a0 a1 a2 a3 a4 a5 a6 a7 a8 a9 2 = a2 ∧ gv_v a0 a1 a2 a3 a4 a5 a6 a7 a8 a9 9 = a9 := ⟨rfl, rfl, rfl, rfl⟩
theorem bl_leaf {g : Nat → Nat → Nat} {sk : Nat → Nat} {ma : Nat} {ki fi se lo hi pa xp xl xc xs so yl yh yf ys yp yn yc yk : Nat → Int32} {he k v : Nat} (T : pg_t g ma) (S : sk_s g ma he sk) (hm : ma < 18) (St : ∀ i, i < he → xs i = nI (sk i) ∧ yk i = nI (sk i)) (XT : ∀ n, n < ma → xt_n g ki fi se lo hi pa n) (YT : ∀ n, n < ma → yt_n g 18 so yl yh yf ys n) (MX : ∀ n, n < ma → me_n g 0 xp xl xc n) (MY : ∀ n, n < ma → me_n g 18 yp yn yc n) (hk : (k = 0 ∧ v < 12) ∨ (k = 1 ∧ v ≤ 50)) :
    rl_B (nI (ma + 1)) (nI (he + 1)) (nI (ma + 1)) (nI (he + 1)) (upd ki ma (nI k)) (upd fi ma (nI v)) (upd se ma 0) (upd lo ma 0) (upd hi ma 0) pa (upd xp ma (nI 1)) (upd xl ma (nI 1)) (upd xc ma (nI 0)) (upd xs he (nI ma)) (upd so (18 + ma) (nI k)) (upd yl (18 + ma) (nI v)) (upd yh (18 + ma) 0) (upd yf (18 + ma) 0) (upd ys (18 + ma) 0) (upd yp (18 + ma) (nI 1)) (upd yn (18 + ma) (nI 1)) (upd yc (18 + ma) (nI 0)) (upd yk he (nI ma)) := by
  have k1 : k ≤ 1 := by omega
  refine nw_B (v := gv_v k v 0 0 0 1 1 0 1 ma) T S (Nat.le_refl _) hm St XT YT MX MY (pn_leaf hk) (fun h => ?_) (fun h => ?_) (fun h => ?_) ?_ (fun n hn => ?_) (fun x _ => rfl) ?_ (fun n hn => ?_) ?_ (fun n hn => ?_) ?_ (fun n hn => ?_)
  · exact S.2.2.2.1 h
  · rw [gv_0.1] at h; omega
  · rw [gv_0.1] at h; omega
  · unfold xt_n
    simp only [gh_m, gv_v, us_s]
    exact ⟨by trivial, by trivial, by trivial, by trivial, fun h => by omega, fun h => by omega⟩
  · simp only [us_n (show n ≠ ma by omega)]
    exact ⟨by trivial, by trivial, by trivial, by trivial, by trivial⟩
  · unfold yt_n
    simp only [gh_m, gv_v, us_s]
    exact ⟨by trivial, fun _ => by trivial, fun h => by omega, fun h => by omega, fun h => by omega⟩
  · simp only [us_n (show 18 + n ≠ 18 + ma by omega)]
    exact ⟨by trivial, by trivial, by trivial, by trivial, by trivial⟩
  · unfold me_n
    simp only [gh_m, gv_v, Nat.zero_add, us_s]
    exact ⟨rfl, rfl, rfl⟩
  · simp only [Nat.zero_add, us_n (show n ≠ ma by omega)]
    exact ⟨by trivial, by trivial, by trivial⟩
  · unfold me_n
    simp only [gh_m, gv_v, us_s]
    exact ⟨rfl, rfl, rfl⟩
  · simp only [us_n (show 18 + n ≠ 18 + ma by omega)]
    exact ⟨by trivial, by trivial, by trivial⟩
theorem bl_two {g : Nat → Nat → Nat} {sk : Nat → Nat} {ma : Nat} {ki fi se lo hi pa xp xl xc xs so yl yh yf ys yp yn yc yk : Nat → Int32} {b k hh P Ln Cn : Nat} {kI vp vl vc wp wl wc : Int32} (T : pg_t g ma) (S : sk_s g ma (b + 2) sk) (hm : ma < 18) (St : ∀ i, i < b + 2 → xs i = nI (sk i) ∧ yk i = nI (sk i)) (XT : ∀ n, n < ma → xt_n g ki fi se lo hi pa n) (YT : ∀ n, n < ma → yt_n g 18 so yl yh yf ys n) (MX : ∀ n, n < ma → me_n g 0 xp xl xc n) (MY : ∀ n, n < ma → me_n g 18 yp yn yc n)
    (hi' : Nat → Int32) (hk : k = 2 ∨ k = 3) (hkI : kI = nI k) (hh1 : hi' ma = nI hh) (hh2 : ∀ n, n < ma → hi' n = hi n)
    (N : pg_n (gh_n g ma (gv_v k (sk b) (sk (b + 1)) 0 hh P Ln Cn (1 + g 8 (sk b) + g 8 (sk (b + 1))) (g 9 (sk b)))) ma)
    (v1 : vp = nI (min P 1000)) (v2 : vl = nI (min Ln 1000)) (v3 : vc = nI (min Cn 1000)) (w1 : wp = nI (min P 1000)) (w2 : wl = nI (min Ln 1000)) (w3 : wc = nI (min Cn 1000)) :
    rl_B (nI (ma + 1)) (nI (b + 1)) (nI (ma + 1)) (nI (b + 1)) (upd ki ma kI) (upd fi ma (nI (sk b))) (upd se ma (nI (sk (b + 1)))) (upd lo ma 0) hi' (upd (upd pa (sk b) (nI ma)) (sk (b + 1)) (nI ma)) (upd xp ma vp) (upd xl ma vl) (upd xc ma vc) (upd xs b (nI ma)) (upd so (18 + ma) kI) (upd yl (18 + ma) 0) (upd yh (18 + ma) 0) (upd yf (18 + ma) (nI (sk b))) (upd ys (18 + ma) (nI (sk (b + 1)))) (upd (upd yp (18 + ma) 1) (18 + ma) wp) (upd (upd yn (18 + ma) 1) (18 + ma) wl) (upd (upd yc (18 + ma) 0) (18 + ma) wc) (upd yk b (nI ma)) := by
  subst hkI v1 v2 v3 w1 w2 w3
  have l1 := S.2.2.1 b (by omega)
  have l2 := S.2.2.1 (b + 1) (by omega)
  have l3 := S.2.2.2.2.2.1 b (b + 1) (by omega) (by omega)
  refine nw_B (v := gv_v k (sk b) (sk (b + 1)) 0 hh P Ln Cn (1 + g 8 (sk b) + g 8 (sk (b + 1))) (g 9 (sk b))) T S (by omega) hm St XT YT MX MY N (fun h => ?_) (fun h => ⟨b, Nat.le_refl _, by omega, rfl⟩) (fun h => ⟨b + 1, by omega, by omega, rfl⟩) ?_ (fun n hn => ?_) (fun x hx => ?_) ?_ (fun n hn => ?_) ?_ (fun n hn => ?_) ?_ (fun n hn => ?_)
  · have := S.2.2.2.2.1 (b - 1) (by omega)
    rw [show b - 1 + 1 = b by omega] at this
    exact this
  · unfold xt_n
    simp only [gh_m, gv_v, us_s, us_n (show sk b ≠ sk (b + 1) by omega)]
    exact ⟨by trivial, by trivial, by trivial, hh1, fun _ => by trivial, fun _ => ⟨by trivial, by trivial⟩⟩
  · simp only [us_n (show n ≠ ma by omega)]
    exact ⟨by trivial, by trivial, by trivial, by trivial, hh2 n hn⟩
  · rw [us_n (hx (b + 1) (by omega) (by omega)), us_n (hx b (by omega) (by omega))]
  · unfold yt_n
    simp only [gh_m, gv_v, us_s]
    exact ⟨by trivial, fun h => by omega, fun h => by trivial, fun h => by trivial, fun h => by omega⟩
  · simp only [us_n (show 18 + n ≠ 18 + ma by omega)]
    exact ⟨by trivial, by trivial, by trivial, by trivial, by trivial⟩
  · unfold me_n
    simp only [gh_m, gv_v, Nat.zero_add, us_s]
    exact ⟨by trivial, by trivial, by trivial⟩
  · simp only [Nat.zero_add, us_n (show n ≠ ma by omega)]
    exact ⟨by trivial, by trivial, by trivial⟩
  · unfold me_n
    simp only [gh_m, gv_v, us_s]
    exact ⟨by trivial, by trivial, by trivial⟩
  · simp only [us_n (show 18 + n ≠ 18 + ma by omega)]
    exact ⟨by trivial, by trivial, by trivial⟩
theorem bl_loop {g : Nat → Nat → Nat} {sk : Nat → Nat} {ma : Nat} {ki fi se lo hi pa xp xl xc xs so yl yh yf ys yp yn yc yk : Nat → Int32} {b l h P Ln Cn : Nat} {vp vl vc wp wl wc : Int32} (T : pg_t g ma) (S : sk_s g ma (b + 1) sk) (hm : ma < 18) (St : ∀ i, i < b + 1 → xs i = nI (sk i) ∧ yk i = nI (sk i)) (XT : ∀ n, n < ma → xt_n g ki fi se lo hi pa n) (YT : ∀ n, n < ma → yt_n g 18 so yl yh yf ys n) (MX : ∀ n, n < ma → me_n g 0 xp xl xc n) (MY : ∀ n, n < ma → me_n g 18 yp yn yc n)
    (N : pg_n (gh_n g ma (gv_v 4 (sk b) 0 l h P Ln Cn (1 + h * g 8 (sk b)) (g 9 (sk b)))) ma)
    (v1 : vp = nI (min P 1000)) (v2 : vl = nI (min Ln 1000)) (v3 : vc = nI (min Cn 1000)) (w1 : wp = nI (min P 1000)) (w2 : wl = nI (min Ln 1000)) (w3 : wc = nI (min Cn 1000)) :
    rl_B (nI (ma + 1)) (nI (b + 1)) (nI (ma + 1)) (nI (b + 1)) (upd ki ma 4) (upd fi ma (nI (sk b))) (upd se ma 0) (upd (upd lo ma 0) ma (nI l)) (upd (upd hi ma 0) ma (nI h)) (upd pa (sk b) (nI ma)) (upd xp ma vp) (upd xl ma vl) (upd xc ma vc) (upd xs b (nI ma)) (upd so (18 + ma) 4) (upd yl (18 + ma) (nI l)) (upd yh (18 + ma) (nI h)) (upd yf (18 + ma) (nI (sk b))) (upd ys (18 + ma) (nI (sk b))) (upd (upd yp (18 + ma) 1) (18 + ma) wp) (upd (upd yn (18 + ma) 1) (18 + ma) wl) (upd (upd yc (18 + ma) 0) (18 + ma) wc) (upd yk b (nI ma)) := by
  subst v1 v2 v3 w1 w2 w3
  have l1 := S.2.2.1 b (by omega)
  refine nw_B (v := gv_v 4 (sk b) 0 l h P Ln Cn (1 + h * g 8 (sk b)) (g 9 (sk b))) T S (by omega) hm St XT YT MX MY N (fun h => ?_) (fun h => ⟨b, Nat.le_refl _, by omega, rfl⟩) (fun h => ?_) ?_ (fun n hn => ?_) (fun x hx => ?_) ?_ (fun n hn => ?_) ?_ (fun n hn => ?_) ?_ (fun n hn => ?_)
  · have := S.2.2.2.2.1 (b - 1) (by omega)
    rw [show b - 1 + 1 = b by omega] at this
    exact this
  · rw [gv_0.1] at h; omega
  · unfold xt_n
    simp only [gh_m, gv_v, us_s]
    exact ⟨rfl, by trivial, by trivial, by trivial, fun _ => by trivial, fun h => by omega⟩
  · simp only [us_n (show n ≠ ma by omega)]
    exact ⟨by trivial, by trivial, by trivial, by trivial, by trivial⟩
  · rw [us_n (hx b (by omega) (by omega))]
  · unfold yt_n
    simp only [gh_m, gv_v, us_s]
    exact ⟨rfl, fun h => by omega, fun h => by trivial, fun h => by omega, fun h => ⟨by trivial, by trivial⟩⟩
  · simp only [us_n (show 18 + n ≠ 18 + ma by omega)]
    exact ⟨by trivial, by trivial, by trivial, by trivial, by trivial⟩
  · unfold me_n
    simp only [gh_m, gv_v, Nat.zero_add, us_s]
    exact ⟨by trivial, by trivial, by trivial⟩
  · simp only [Nat.zero_add, us_n (show n ≠ ma by omega)]
    exact ⟨by trivial, by trivial, by trivial⟩
  · unfold me_n
    simp only [gh_m, gv_v, us_s]
    exact ⟨by trivial, by trivial, by trivial⟩
  · simp only [us_n (show 18 + n ≠ 18 + ma by omega)]
    exact ⟨by trivial, by trivial, by trivial⟩
