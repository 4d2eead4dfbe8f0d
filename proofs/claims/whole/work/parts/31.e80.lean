/-! THE PROGRAM AGAINST THE REFERENCE, 66: the steps of the law -/
theorem lg_eq (x : Int64) : lg_cmp x x = 0 := by
  unfold lg_cmp
  rw [if_neg (by simp), if_pos rfl]
/-- a call that may be refused, and the reference's: what the law sees of them -/
def LWC (w b : ev_F) (lk : Nat → Nat → Nat → Bool) (d : Nat → Nat → Nat → Int32) : Prop := ∀ n o, 402 ≤ n → ∃ z n1 d1 o1 v d2, EV w (n, lk, d, o) = some (.inl (some (ev_I z)), (n1, lk, d1, o1)) ∧ EV b (n1, lk, d1, o1) = some (.inl (some (ev_I v)), (n1, lk, d2, o1)) ∧ d2 44 0 0 = z ∧ (z = 0 → lg_cmp o1 v.toInt64 = 0) ∧ SC d d1 ∧ SC d d2 ∧ GI d2 ∧ 402 ≤ n1
theorem lw_H {w a b : ev_F} {kf : Nat → Int32} {lk : Nat → Nat → Nat → Bool} {d : Nat → Nat → Nat → Int32} (h : OPH a b kf lk d)
    (h0 : ∀ n o v d1, EV a (n, lk, d, o) = some (.inl (some (ev_I v)), (n, lk, d1, o)) → EV w (n, lk, d, o) = some (.inl (some (ev_I 0)), (n, lk, d1, v.toInt64)))
    (hE : ∀ n o E, E < 3 → kf E ≠ 0 → EV a (n, lk, d, o) = some (.inr E, (n + 1000, lk, d, o)) → EV w (n, lk, d, o) = some (.inl (some (ev_I (kf E))), (n + 1000, lk, d, o))) : LWC w b lk d := by
  intro n o hn
  rcases h n o hn with ⟨v, d1, d2, s1, s2, g2, t2, ea, eb⟩ | ⟨E, v, d2, s2, g2, t2, h3, hk, ea, eb⟩
  · exact ⟨0, n, d1, v.toInt64, v, d2, h0 n o v d1 ea, eb, t2, fun _ => lg_eq _, s1, s2, g2, hn⟩
  · exact ⟨kf E, n + 1000, d, o, v, d2, hE n o E h3 hk ea, eb, t2, fun z => absurd z hk, SC_r d, s2, g2, by omega⟩
/-- what goes on behind a step -/
def LWK (lk : Nat → Nat → Nat → Bool) (d : Nat → Nat → Nat → Int32) (i c s : Nat) : Prop := ∀ n' d' o' c' s', 402 ≤ n' → GI d' → SC d d' → c' ≤ c + 4 → s' ≤ s + 24 → ∃ μ, EV (243, 23, [ev_R 103 0, ev_R 27 0, ev_R 44 0, ev_R 61 0, ev_I (Int32.ofNat i + 6)], [], c', s') (n', lk, d', o') = some (.inl (some (ev_I 1)), μ)
theorem ni_2 (a : Nat) : Int32.ofNat a + (2 : Int32) = Int32.ofNat (a + 2) := by rw [Int32.ofNat_add]; rfl
theorem ni_3 (a : Nat) : Int32.ofNat a + (3 : Int32) = Int32.ofNat (a + 3) := by rw [Int32.ofNat_add]; rfl
theorem ni_4 (a : Nat) : Int32.ofNat a + (4 : Int32) = Int32.ofNat (a + 4) := by rw [Int32.ofNat_add]; rfl
theorem ni_5 (a : Nat) : Int32.ofNat a + (5 : Int32) = Int32.ofNat (a + 5) := by rw [Int32.ofNat_add]; rfl
theorem ni_6 (a : Nat) : Int32.ofNat a + (6 : Int32) = Int32.ofNat (a + 6) := by rw [Int32.ofNat_add]; rfl
section EC51
variable {n : Nat} {lk : Nat → Nat → Nat → Bool} {d : Nat → Nat → Nat → Int32} {o : Int64}
theorem lw_224 (hl : LK lk) (h : GI d) {x : Int32} : LWC (224, 0, [ev_R 27 0, ev_I x, ev_R 61 0], [], 0, 0) (151, 0, [ev_R 44 0, ev_I x], [], 0, 0) lk d := by
  refine lw_H (op_parse hl h) (fun n o v d1 e => EV_bk (k := 400) ?_) (fun n o E h3 hk e => EV_bk (k := 400) ?_)
  · rw [bk_224_0, e]
    rfl
  · rw [bk_224_0, e]
    match E, h3, hk with
    | 0, _, _ => rfl
    | 1, _, hk => exact absurd rfl hk
    | 2, _, hk => exact absurd rfl hk
theorem lw_225 (hl : LK lk) (h : GI d) {x : Int32} : LWC (225, 0, [ev_R 27 0, ev_I x, ev_R 61 0], [], 0, 0) (190, 0, [ev_R 44 0, ev_I x], [], 0, 0) lk d := by
  refine lw_H (op_size hl h) (fun n o v d1 e => EV_bk (k := 400) ?_) (fun n o E h3 hk e => EV_bk (k := 400) ?_)
  · rw [bk_225_0, e]
    rfl
  · rw [bk_225_0, e]
    match E, h3, hk with
    | 0, _, _ => rfl
    | 1, _, hk => exact absurd rfl hk
    | 2, _, hk => exact absurd rfl hk
theorem lw_226 (hl : LK lk) (h : GI d) {x : Int32} : LWC (226, 0, [ev_R 27 0, ev_I x, ev_R 61 0], [], 0, 0) (192, 0, [ev_R 44 0, ev_I x], [], 0, 0) lk d := by
  refine lw_H (op_setting hl h) (fun n o v d1 e => EV_bk (k := 400) ?_) (fun n o E h3 hk e => EV_bk (k := 400) ?_)
  · rw [bk_226_0, e]
    rfl
  · rw [bk_226_0, e]
    match E, h3, hk with
    | 0, _, _ => rfl
    | 1, _, hk => exact absurd rfl hk
    | 2, _, hk => exact absurd rfl hk
theorem lw_227 (hl : LK lk) (h : GI d) {x y : Int32} : LWC (227, 0, [ev_R 27 0, ev_I x, ev_I y, ev_R 61 0], [], 0, 0) (197, 0, [ev_R 44 0, ev_I x, ev_I y], [], 0, 0) lk d := by
  refine lw_H (op_bank hl h) (fun n o v d1 e => EV_bk (k := 400) ?_) (fun n o E h3 hk e => EV_bk (k := 400) ?_)
  · rw [bk_227_0, e]
    rfl
  · rw [bk_227_0, e]
    match E, h3, hk with
    | 0, _, _ => rfl
    | 1, _, _ => rfl
    | 2, _, hk => exact absurd rfl hk
theorem lw_228 (hl : LK lk) (h : GI d) {x y z : Int32} : LWC (228, 0, [ev_R 27 0, ev_I x, ev_I y, ev_I z, ev_R 61 0], [], 0, 0) (198, 0, [ev_R 44 0, ev_I x, ev_I y, ev_I z], [], 0, 0) lk d := by
  refine lw_H (op_row hl h) (fun n o v d1 e => EV_bk (k := 400) ?_) (fun n o E h3 hk e => EV_bk (k := 400) ?_)
  · rw [bk_228_0, e]
    rfl
  · rw [bk_228_0, e]
    match E, h3, hk with
    | 0, _, _ => rfl
    | 1, _, _ => rfl
    | 2, _, hk => exact absurd rfl hk
theorem lw_229 (hl : LK lk) (h : GI d) {x y : Int32} : LWC (229, 0, [ev_R 27 0, ev_I x, ev_I y, ev_R 61 0], [], 0, 0) (199, 0, [ev_R 44 0, ev_I x, ev_I y], [], 0, 0) lk d := by
  refine lw_H (op_request hl h) (fun n o v d1 e => EV_bk (k := 400) ?_) (fun n o E h3 hk e => EV_bk (k := 400) ?_)
  · rw [bk_229_0, e]
    rfl
  · rw [bk_229_0, e]
    match E, h3, hk with
    | 0, _, _ => rfl
    | 1, _, _ => rfl
    | 2, _, hk => exact absurd rfl hk
theorem lw_230 (hl : LK lk) (h : GI d) {x y : Int32} : LWC (230, 0, [ev_R 27 0, ev_I x, ev_I y, ev_R 61 0], [], 0, 0) (200, 0, [ev_R 44 0, ev_I x, ev_I y], [], 0, 0) lk d := by
  refine lw_H (op_waiting hl h) (fun n o v d1 e => EV_bk (k := 400) ?_) (fun n o E h3 hk e => EV_bk (k := 400) ?_)
  · rw [bk_230_0, e]
    rfl
  · rw [bk_230_0, e]
    match E, h3, hk with
    | 0, _, hk => exact absurd rfl hk
    | 1, _, _ => rfl
    | 2, _, hk => exact absurd rfl hk
theorem lw_231 (hl : LK lk) (h : GI d) {x y : Int32} : LWC (231, 0, [ev_R 27 0, ev_I x, ev_I y, ev_R 61 0], [], 0, 0) (202, 0, [ev_R 44 0, ev_I x, ev_I y], [], 0, 0) lk d := by
  refine lw_H (op_next hl h) (fun n o v d1 e => EV_bk (k := 400) ?_) (fun n o E h3 hk e => EV_bk (k := 400) ?_)
  · rw [bk_231_0, e]
    rfl
  · rw [bk_231_0, e]
    match E, h3, hk with
    | 0, _, _ => rfl
    | 1, _, _ => rfl
    | 2, _, hk => exact absurd rfl hk
theorem lw_232 (hl : LK lk) (h : GI d) {x : Int32} : LWC (232, 0, [ev_R 27 0, ev_I x, ev_R 61 0], [], 0, 0) (205, 0, [ev_R 44 0, ev_I x], [], 0, 0) lk d := by
  refine lw_H (op_lossesAhead hl h) (fun n o v d1 e => EV_bk (k := 400) ?_) (fun n o E h3 hk e => EV_bk (k := 400) ?_)
  · rw [bk_232_0, e]
    rfl
  · rw [bk_232_0, e]
    match E, h3, hk with
    | 0, _, _ => rfl
    | 1, _, hk => exact absurd rfl hk
    | 2, _, hk => exact absurd rfl hk
theorem lw_233 (hl : LK lk) (h : GI d) {x y : Int32} : LWC (233, 0, [ev_R 27 0, ev_I x, ev_I y, ev_R 61 0], [], 0, 0) (206, 0, [ev_R 44 0, ev_I x, ev_I y], [], 0, 0) lk d := by
  refine lw_H (op_leastSetting hl h) (fun n o v d1 e => EV_bk (k := 400) ?_) (fun n o E h3 hk e => EV_bk (k := 400) ?_)
  · rw [bk_233_0, e]
    rfl
  · rw [bk_233_0, e]
    match E, h3, hk with
    | 0, _, _ => rfl
    | 1, _, hk => exact absurd rfl hk
    | 2, _, hk => exact absurd rfl hk
theorem lw_234 (hl : LK lk) (h : GI d) {x : Int32} : LWC (234, 0, [ev_R 27 0, ev_I x, ev_R 61 0], [], 0, 0) (207, 0, [ev_R 44 0, ev_I x], [], 0, 0) lk d := by
  refine lw_H (op_waitOf hl h) (fun n o v d1 e => EV_bk (k := 400) ?_) (fun n o E h3 hk e => EV_bk (k := 400) ?_)
  · rw [bk_234_0, e]
    rfl
  · rw [bk_234_0, e]
    match E, h3, hk with
    | 0, _, hk => exact absurd rfl hk
    | 1, _, _ => rfl
    | 2, _, hk => exact absurd rfl hk
theorem lw_235 (hl : LK lk) (h : GI d) {x : Int32} : LWC (235, 0, [ev_R 27 0, ev_I x, ev_R 61 0], [], 0, 0) (208, 0, [ev_R 44 0, ev_I x], [], 0, 0) lk d := by
  refine lw_H (op_gain hl h) (fun n o v d1 e => EV_bk (k := 400) ?_) (fun n o E h3 hk e => EV_bk (k := 400) ?_)
  · rw [bk_235_0, e]
    rfl
  · rw [bk_235_0, e]
    match E, h3, hk with
    | 0, _, _ => rfl
    | 1, _, hk => exact absurd rfl hk
    | 2, _, hk => exact absurd rfl hk
theorem lw_236 (hl : LK lk) (h : GI d) {x : Int32} : LWC (236, 0, [ev_R 27 0, ev_I x, ev_R 61 0], [], 0, 0) (212, 0, [ev_R 44 0, ev_I x], [], 0, 0) lk d := by
  refine lw_H (op_account hl h) (fun n o v d1 e => EV_bk (k := 400) ?_) (fun n o E h3 hk e => EV_bk (k := 400) ?_)
  · rw [bk_236_0, e]
    rfl
  · rw [bk_236_0, e]
    match E, h3, hk with
    | 0, _, _ => rfl
    | 1, _, hk => exact absurd rfl hk
    | 2, _, hk => exact absurd rfl hk
theorem lw_237 (hl : LK lk) (h : GI d) {x : Int32} : LWC (237, 0, [ev_R 27 0, ev_I x, ev_R 61 0], [], 0, 0) (213, 0, [ev_R 44 0, ev_I x], [], 0, 0) lk d := by
  refine lw_H (op_pass hl h) (fun n o v d1 e => EV_bk (k := 400) ?_) (fun n o E h3 hk e => EV_bk (k := 400) ?_)
  · rw [bk_237_0, e]
    rfl
  · rw [bk_237_0, e]
    match E, h3, hk with
    | 0, _, _ => rfl
    | 1, _, hk => exact absurd rfl hk
    | 2, _, _ => rfl
theorem lw_238 (hl : LK lk) (h : GI d) {x y : Int32} : LWC (238, 0, [ev_R 27 0, ev_I x, ev_I y, ev_R 61 0], [], 0, 0) (214, 0, [ev_R 44 0, ev_I x, ev_I y], [], 0, 0) lk d := by
  refine lw_H (op_ask hl h) (fun n o v d1 e => EV_bk (k := 400) ?_) (fun n o E h3 hk e => EV_bk (k := 400) ?_)
  · rw [bk_238_0, e]
    rfl
  · rw [bk_238_0, e]
    match E, h3, hk with
    | 0, _, hk => exact absurd rfl hk
    | 1, _, _ => rfl
    | 2, _, _ => rfl
theorem lw_239 (hl : LK lk) (h : GI d) {x y : Int32} : LWC (239, 0, [ev_R 27 0, ev_I x, ev_I y, ev_R 61 0], [], 0, 0) (215, 0, [ev_R 44 0, ev_I x, ev_I y], [], 0, 0) lk d := by
  refine lw_H (op_trade hl h) (fun n o v d1 e => EV_bk (k := 400) ?_) (fun n o E h3 hk e => EV_bk (k := 400) ?_)
  · rw [bk_239_0, e]
    rfl
  · rw [bk_239_0, e]
    match E, h3, hk with
    | 0, _, _ => rfl
    | 1, _, _ => rfl
    | 2, _, _ => rfl
theorem lw_240 (hl : LK lk) (h : GI d) {x y : Int32} : LWC (240, 0, [ev_R 27 0, ev_I x, ev_I y, ev_R 61 0], [], 0, 0) (216, 0, [ev_R 44 0, ev_I x, ev_I y], [], 0, 0) lk d := by
  refine lw_H (op_set hl h) (fun n o v d1 e => EV_bk (k := 400) ?_) (fun n o E h3 hk e => EV_bk (k := 400) ?_)
  · rw [bk_240_0, e]
    rfl
  · rw [bk_240_0, e]
    match E, h3, hk with
    | 0, _, _ => rfl
    | 1, _, hk => exact absurd rfl hk
    | 2, _, hk => exact absurd rfl hk
theorem lw_242 (hl : LK lk) (h : GI d) {x : Int32} : LWC (242, 0, [ev_R 27 0, ev_I x, ev_R 61 0], [], 0, 0) (223, 0, [ev_R 44 0, ev_I x], [], 0, 0) lk d := by
  refine lw_H (op_restore hl h) (fun n o v d1 e => EV_bk (k := 400) ?_) (fun n o E h3 hk e => EV_bk (k := 400) ?_)
  · rw [bk_242_0, e]
    rfl
  · rw [bk_242_0, e]
    match E, h3, hk with
    | 0, _, hk => exact absurd rfl hk
    | 1, _, _ => rfl
    | 2, _, _ => rfl
theorem lc_241 (hl : LK lk) (h : GI d) (hn : 402 ≤ n) {l i c s : Nat} (hL : d 104 0 0 = Int32.ofNat l) (hl3 : l ≤ 3072) (hi : i + 6 ≤ l) (hc : c + 4 ≤ 601024) (hs : s + 24 ≤ 7293033) (K : LWK lk d i c s) : ∃ μ, EV (243, 241, [ev_R 103 0, ev_R 27 0, ev_R 44 0, ev_R 61 0, ev_I (Int32.ofNat i)], [], c, s) (n, lk, d, o) = some (.inl (some (ev_I 1)), μ) := by
  obtain ⟨z, n1, d1, o1, v, d2, ew, eb, ht, hz, s1, s2, g2, hn1⟩ := lw_224 hl h (x := d 103 0 (i + 1)) n o hn
  obtain ⟨μ, e⟩ := K n1 d2 o1 (((c + 1) + 0) + 0) (((s + 6) + 0) + 0) hn1 g2 s2 (by omega) (by omega)
  refine ⟨μ, EV_bk (k := 400) ?_⟩
  rw [bk_243_241]
  simp only [ni_1, hL, ni_c (n := l) (by omega), ni_in (n := i + 1) (N := l) (by omega) (by omega), ni_c (n := i + 1) (by omega), Nat.ble_eq.mpr (show c + 1 ≤ 601024 by omega), Nat.ble_eq.mpr (show s + 6 ≤ 7293033 by omega), Nat.ble_eq.mpr (show (c + 1) + 0 ≤ 601024 by omega), Nat.ble_eq.mpr (show (s + 6) + 0 ≤ 7293033 by omega), Nat.ble_eq.mpr (show ((c + 1) + 0) + 0 ≤ 601024 by omega), Nat.ble_eq.mpr (show ((s + 6) + 0) + 0 ≤ 7293033 by omega), cond_true, ew, ev_bi, s1.1, s1.2, eb, em_thrown, ht, ↓reduceIte]
  by_cases y : z = 0
  · simp only [y, hz y, ↓reduceIte]
    exact e
  · simp only [y, ↓reduceIte]
    exact e
theorem lc_310 (hl : LK lk) (h : GI d) (hn : 402 ≤ n) {l i c s : Nat} (hL : d 104 0 0 = Int32.ofNat l) (hl3 : l ≤ 3072) (hi : i + 6 ≤ l) (hc : c + 4 ≤ 601024) (hs : s + 24 ≤ 7293033) (K : LWK lk d i c s) : ∃ μ, EV (243, 310, [ev_R 103 0, ev_R 27 0, ev_R 44 0, ev_R 61 0, ev_I (Int32.ofNat i)], [], c, s) (n, lk, d, o) = some (.inl (some (ev_I 1)), μ) := by
  obtain ⟨z, n1, d1, o1, v, d2, ew, eb, ht, hz, s1, s2, g2, hn1⟩ := lw_225 hl h (x := d 103 0 (i + 1)) n o hn
  obtain ⟨μ, e⟩ := K n1 d2 o1 (((c + 1) + 0) + 0) (((s + 6) + 0) + 0) hn1 g2 s2 (by omega) (by omega)
  refine ⟨μ, EV_bk (k := 400) ?_⟩
  rw [bk_243_310]
  simp only [ni_1, hL, ni_c (n := l) (by omega), ni_in (n := i + 1) (N := l) (by omega) (by omega), ni_c (n := i + 1) (by omega), Nat.ble_eq.mpr (show c + 1 ≤ 601024 by omega), Nat.ble_eq.mpr (show s + 6 ≤ 7293033 by omega), Nat.ble_eq.mpr (show (c + 1) + 0 ≤ 601024 by omega), Nat.ble_eq.mpr (show (s + 6) + 0 ≤ 7293033 by omega), Nat.ble_eq.mpr (show ((c + 1) + 0) + 0 ≤ 601024 by omega), Nat.ble_eq.mpr (show ((s + 6) + 0) + 0 ≤ 7293033 by omega), cond_true, ew, ev_bi, s1.1, s1.2, eb, em_thrown, ht, ↓reduceIte]
  by_cases y : z = 0
  · simp only [y, hz y, ↓reduceIte]
    exact e
  · simp only [y, ↓reduceIte]
    exact e
theorem lc_366 (hl : LK lk) (h : GI d) (hn : 402 ≤ n) {l i c s : Nat} (hL : d 104 0 0 = Int32.ofNat l) (hl3 : l ≤ 3072) (hi : i + 6 ≤ l) (hc : c + 4 ≤ 601024) (hs : s + 24 ≤ 7293033) (K : LWK lk d i c s) : ∃ μ, EV (243, 366, [ev_R 103 0, ev_R 27 0, ev_R 44 0, ev_R 61 0, ev_I (Int32.ofNat i)], [], c, s) (n, lk, d, o) = some (.inl (some (ev_I 1)), μ) := by
  obtain ⟨z, n1, d1, o1, v, d2, ew, eb, ht, hz, s1, s2, g2, hn1⟩ := lw_226 hl h (x := d 103 0 (i + 1)) n o hn
  obtain ⟨μ, e⟩ := K n1 d2 o1 (((c + 1) + 0) + 0) (((s + 6) + 0) + 0) hn1 g2 s2 (by omega) (by omega)
  refine ⟨μ, EV_bk (k := 400) ?_⟩
  rw [bk_243_366]
  simp only [ni_1, hL, ni_c (n := l) (by omega), ni_in (n := i + 1) (N := l) (by omega) (by omega), ni_c (n := i + 1) (by omega), Nat.ble_eq.mpr (show c + 1 ≤ 601024 by omega), Nat.ble_eq.mpr (show s + 6 ≤ 7293033 by omega), Nat.ble_eq.mpr (show (c + 1) + 0 ≤ 601024 by omega), Nat.ble_eq.mpr (show (s + 6) + 0 ≤ 7293033 by omega), Nat.ble_eq.mpr (show ((c + 1) + 0) + 0 ≤ 601024 by omega), Nat.ble_eq.mpr (show ((s + 6) + 0) + 0 ≤ 7293033 by omega), cond_true, ew, ev_bi, s1.1, s1.2, eb, em_thrown, ht, ↓reduceIte]
  by_cases y : z = 0
  · simp only [y, hz y, ↓reduceIte]
    exact e
  · simp only [y, ↓reduceIte]
    exact e
theorem lc_422 (hl : LK lk) (h : GI d) (hn : 402 ≤ n) {l i c s : Nat} (hL : d 104 0 0 = Int32.ofNat l) (hl3 : l ≤ 3072) (hi : i + 6 ≤ l) (hc : c + 4 ≤ 601024) (hs : s + 24 ≤ 7293033) (K : LWK lk d i c s) : ∃ μ, EV (243, 422, [ev_R 103 0, ev_R 27 0, ev_R 44 0, ev_R 61 0, ev_I (Int32.ofNat i)], [], c, s) (n, lk, d, o) = some (.inl (some (ev_I 1)), μ) := by
  obtain ⟨z, n1, d1, o1, v, d2, ew, eb, ht, hz, s1, s2, g2, hn1⟩ := lw_227 hl h (x := d 103 0 (i + 1)) (y := d 103 0 (i + 2)) n o hn
  obtain ⟨μ, e⟩ := K n1 d2 o1 (((c + 2) + 0) + 0) (((s + 12) + 0) + 0) hn1 g2 s2 (by omega) (by omega)
  refine ⟨μ, EV_bk (k := 400) ?_⟩
  rw [bk_243_422]
  simp only [ni_1, ni_2, hL, ni_c (n := l) (by omega), ni_in (n := i + 1) (N := l) (by omega) (by omega), ni_c (n := i + 1) (by omega), ni_in (n := i + 2) (N := l) (by omega) (by omega), ni_c (n := i + 2) (by omega), Nat.ble_eq.mpr (show c + 2 ≤ 601024 by omega), Nat.ble_eq.mpr (show s + 12 ≤ 7293033 by omega), Nat.ble_eq.mpr (show (c + 2) + 0 ≤ 601024 by omega), Nat.ble_eq.mpr (show (s + 12) + 0 ≤ 7293033 by omega), Nat.ble_eq.mpr (show ((c + 2) + 0) + 0 ≤ 601024 by omega), Nat.ble_eq.mpr (show ((s + 12) + 0) + 0 ≤ 7293033 by omega), cond_true, ew, ev_bi, s1.1, s1.2, eb, em_thrown, ht, ↓reduceIte]
  by_cases y : z = 0
  · simp only [y, hz y, ↓reduceIte]
    exact e
  · simp only [y, ↓reduceIte]
    exact e
theorem lc_490 (hl : LK lk) (h : GI d) (hn : 402 ≤ n) {l i c s : Nat} (hL : d 104 0 0 = Int32.ofNat l) (hl3 : l ≤ 3072) (hi : i + 6 ≤ l) (hc : c + 4 ≤ 601024) (hs : s + 24 ≤ 7293033) (K : LWK lk d i c s) : ∃ μ, EV (243, 490, [ev_R 103 0, ev_R 27 0, ev_R 44 0, ev_R 61 0, ev_I (Int32.ofNat i)], [], c, s) (n, lk, d, o) = some (.inl (some (ev_I 1)), μ) := by
  obtain ⟨z, n1, d1, o1, v, d2, ew, eb, ht, hz, s1, s2, g2, hn1⟩ := lw_228 hl h (x := d 103 0 (i + 1)) (y := d 103 0 (i + 2)) (z := d 103 0 (i + 3)) n o hn
  obtain ⟨μ, e⟩ := K n1 d2 o1 (((c + 2) + 0) + 0) (((s + 12) + 0) + 0) hn1 g2 s2 (by omega) (by omega)
  refine ⟨μ, EV_bk (k := 400) ?_⟩
  rw [bk_243_490]
  simp only [ni_1, ni_2, ni_3, hL, ni_c (n := l) (by omega), ni_in (n := i + 1) (N := l) (by omega) (by omega), ni_c (n := i + 1) (by omega), ni_in (n := i + 2) (N := l) (by omega) (by omega), ni_c (n := i + 2) (by omega), ni_in (n := i + 3) (N := l) (by omega) (by omega), ni_c (n := i + 3) (by omega), Nat.ble_eq.mpr (show c + 2 ≤ 601024 by omega), Nat.ble_eq.mpr (show s + 12 ≤ 7293033 by omega), Nat.ble_eq.mpr (show (c + 2) + 0 ≤ 601024 by omega), Nat.ble_eq.mpr (show (s + 12) + 0 ≤ 7293033 by omega), Nat.ble_eq.mpr (show ((c + 2) + 0) + 0 ≤ 601024 by omega), Nat.ble_eq.mpr (show ((s + 12) + 0) + 0 ≤ 7293033 by omega), cond_true, ew, ev_bi, s1.1, s1.2, eb, em_thrown, ht, ↓reduceIte]
  by_cases y : z = 0
  · simp only [y, hz y, ↓reduceIte]
    exact e
  · simp only [y, ↓reduceIte]
    exact e
theorem lc_570 (hl : LK lk) (h : GI d) (hn : 402 ≤ n) {l i c s : Nat} (hL : d 104 0 0 = Int32.ofNat l) (hl3 : l ≤ 3072) (hi : i + 6 ≤ l) (hc : c + 4 ≤ 601024) (hs : s + 24 ≤ 7293033) (K : LWK lk d i c s) : ∃ μ, EV (243, 570, [ev_R 103 0, ev_R 27 0, ev_R 44 0, ev_R 61 0, ev_I (Int32.ofNat i)], [], c, s) (n, lk, d, o) = some (.inl (some (ev_I 1)), μ) := by
  obtain ⟨z, n1, d1, o1, v, d2, ew, eb, ht, hz, s1, s2, g2, hn1⟩ := lw_229 hl h (x := d 103 0 (i + 1)) (y := d 103 0 (i + 2)) n o hn
  obtain ⟨μ, e⟩ := K n1 d2 o1 (((c + 2) + 0) + 0) (((s + 12) + 0) + 0) hn1 g2 s2 (by omega) (by omega)
  refine ⟨μ, EV_bk (k := 400) ?_⟩
  rw [bk_243_570]
  simp only [ni_1, ni_2, hL, ni_c (n := l) (by omega), ni_in (n := i + 1) (N := l) (by omega) (by omega), ni_c (n := i + 1) (by omega), ni_in (n := i + 2) (N := l) (by omega) (by omega), ni_c (n := i + 2) (by omega), Nat.ble_eq.mpr (show c + 2 ≤ 601024 by omega), Nat.ble_eq.mpr (show s + 12 ≤ 7293033 by omega), Nat.ble_eq.mpr (show (c + 2) + 0 ≤ 601024 by omega), Nat.ble_eq.mpr (show (s + 12) + 0 ≤ 7293033 by omega), Nat.ble_eq.mpr (show ((c + 2) + 0) + 0 ≤ 601024 by omega), Nat.ble_eq.mpr (show ((s + 12) + 0) + 0 ≤ 7293033 by omega), cond_true, ew, ev_bi, s1.1, s1.2, eb, em_thrown, ht, ↓reduceIte]
  by_cases y : z = 0
  · simp only [y, hz y, ↓reduceIte]
    exact e
  · simp only [y, ↓reduceIte]
    exact e
theorem lc_638 (hl : LK lk) (h : GI d) (hn : 402 ≤ n) {l i c s : Nat} (hL : d 104 0 0 = Int32.ofNat l) (hl3 : l ≤ 3072) (hi : i + 6 ≤ l) (hc : c + 4 ≤ 601024) (hs : s + 24 ≤ 7293033) (K : LWK lk d i c s) : ∃ μ, EV (243, 638, [ev_R 103 0, ev_R 27 0, ev_R 44 0, ev_R 61 0, ev_I (Int32.ofNat i)], [], c, s) (n, lk, d, o) = some (.inl (some (ev_I 1)), μ) := by
  obtain ⟨z, n1, d1, o1, v, d2, ew, eb, ht, hz, s1, s2, g2, hn1⟩ := lw_230 hl h (x := d 103 0 (i + 1)) (y := d 103 0 (i + 2)) n o hn
  obtain ⟨μ, e⟩ := K n1 d2 o1 (((c + 1) + 0) + 0) (((s + 6) + 0) + 0) hn1 g2 s2 (by omega) (by omega)
  refine ⟨μ, EV_bk (k := 400) ?_⟩
  rw [bk_243_638]
  simp only [ni_1, ni_2, hL, ni_c (n := l) (by omega), ni_in (n := i + 1) (N := l) (by omega) (by omega), ni_c (n := i + 1) (by omega), ni_in (n := i + 2) (N := l) (by omega) (by omega), ni_c (n := i + 2) (by omega), Nat.ble_eq.mpr (show c + 1 ≤ 601024 by omega), Nat.ble_eq.mpr (show s + 6 ≤ 7293033 by omega), Nat.ble_eq.mpr (show (c + 1) + 0 ≤ 601024 by omega), Nat.ble_eq.mpr (show (s + 6) + 0 ≤ 7293033 by omega), Nat.ble_eq.mpr (show ((c + 1) + 0) + 0 ≤ 601024 by omega), Nat.ble_eq.mpr (show ((s + 6) + 0) + 0 ≤ 7293033 by omega), cond_true, ew, ev_bi, s1.1, s1.2, eb, em_thrown, ht, ↓reduceIte]
  by_cases y : z = 0
  · simp only [y, hz y, ↓reduceIte]
    exact e
  · simp only [y, ↓reduceIte]
    exact e
theorem lc_719 (hl : LK lk) (h : GI d) (hn : 402 ≤ n) {l i c s : Nat} (hL : d 104 0 0 = Int32.ofNat l) (hl3 : l ≤ 3072) (hi : i + 6 ≤ l) (hc : c + 4 ≤ 601024) (hs : s + 24 ≤ 7293033) (K : LWK lk d i c s) : ∃ μ, EV (243, 719, [ev_R 103 0, ev_R 27 0, ev_R 44 0, ev_R 61 0, ev_I (Int32.ofNat i)], [], c, s) (n, lk, d, o) = some (.inl (some (ev_I 1)), μ) := by
  obtain ⟨z, n1, d1, o1, v, d2, ew, eb, ht, hz, s1, s2, g2, hn1⟩ := lw_231 hl h (x := d 103 0 (i + 1)) (y := d 103 0 (i + 2)) n o hn
  obtain ⟨μ, e⟩ := K n1 d2 o1 (((c + 2) + 0) + 0) (((s + 12) + 0) + 0) hn1 g2 s2 (by omega) (by omega)
  refine ⟨μ, EV_bk (k := 400) ?_⟩
  rw [bk_243_719]
  simp only [ni_1, ni_2, hL, ni_c (n := l) (by omega), ni_in (n := i + 1) (N := l) (by omega) (by omega), ni_c (n := i + 1) (by omega), ni_in (n := i + 2) (N := l) (by omega) (by omega), ni_c (n := i + 2) (by omega), Nat.ble_eq.mpr (show c + 2 ≤ 601024 by omega), Nat.ble_eq.mpr (show s + 12 ≤ 7293033 by omega), Nat.ble_eq.mpr (show (c + 2) + 0 ≤ 601024 by omega), Nat.ble_eq.mpr (show (s + 12) + 0 ≤ 7293033 by omega), Nat.ble_eq.mpr (show ((c + 2) + 0) + 0 ≤ 601024 by omega), Nat.ble_eq.mpr (show ((s + 12) + 0) + 0 ≤ 7293033 by omega), cond_true, ew, ev_bi, s1.1, s1.2, eb, em_thrown, ht, ↓reduceIte]
  by_cases y : z = 0
  · simp only [y, hz y, ↓reduceIte]
    exact e
  · simp only [y, ↓reduceIte]
    exact e
theorem lc_800 (hl : LK lk) (h : GI d) (hn : 402 ≤ n) {l i c s : Nat} (hL : d 104 0 0 = Int32.ofNat l) (hl3 : l ≤ 3072) (hi : i + 6 ≤ l) (hc : c + 4 ≤ 601024) (hs : s + 24 ≤ 7293033) (K : LWK lk d i c s) : ∃ μ, EV (243, 800, [ev_R 103 0, ev_R 27 0, ev_R 44 0, ev_R 61 0, ev_I (Int32.ofNat i)], [], c, s) (n, lk, d, o) = some (.inl (some (ev_I 1)), μ) := by
  obtain ⟨z, n1, d1, o1, v, d2, ew, eb, ht, hz, s1, s2, g2, hn1⟩ := lw_232 hl h (x := d 103 0 (i + 1)) n o hn
  obtain ⟨μ, e⟩ := K n1 d2 o1 (((c + 1) + 0) + 0) (((s + 6) + 0) + 0) hn1 g2 s2 (by omega) (by omega)
  refine ⟨μ, EV_bk (k := 400) ?_⟩
  rw [bk_243_800]
  simp only [ni_1, hL, ni_c (n := l) (by omega), ni_in (n := i + 1) (N := l) (by omega) (by omega), ni_c (n := i + 1) (by omega), Nat.ble_eq.mpr (show c + 1 ≤ 601024 by omega), Nat.ble_eq.mpr (show s + 6 ≤ 7293033 by omega), Nat.ble_eq.mpr (show (c + 1) + 0 ≤ 601024 by omega), Nat.ble_eq.mpr (show (s + 6) + 0 ≤ 7293033 by omega), Nat.ble_eq.mpr (show ((c + 1) + 0) + 0 ≤ 601024 by omega), Nat.ble_eq.mpr (show ((s + 6) + 0) + 0 ≤ 7293033 by omega), cond_true, ew, ev_bi, s1.1, s1.2, eb, em_thrown, ht, ↓reduceIte]
  by_cases y : z = 0
  · simp only [y, hz y, ↓reduceIte]
    exact e
  · simp only [y, ↓reduceIte]
    exact e
theorem lc_856 (hl : LK lk) (h : GI d) (hn : 402 ≤ n) {l i c s : Nat} (hL : d 104 0 0 = Int32.ofNat l) (hl3 : l ≤ 3072) (hi : i + 6 ≤ l) (hc : c + 4 ≤ 601024) (hs : s + 24 ≤ 7293033) (K : LWK lk d i c s) : ∃ μ, EV (243, 856, [ev_R 103 0, ev_R 27 0, ev_R 44 0, ev_R 61 0, ev_I (Int32.ofNat i)], [], c, s) (n, lk, d, o) = some (.inl (some (ev_I 1)), μ) := by
  obtain ⟨z, n1, d1, o1, v, d2, ew, eb, ht, hz, s1, s2, g2, hn1⟩ := lw_233 hl h (x := d 103 0 (i + 1)) (y := d 103 0 (i + 2)) n o hn
  obtain ⟨μ, e⟩ := K n1 d2 o1 (((c + 2) + 0) + 0) (((s + 12) + 0) + 0) hn1 g2 s2 (by omega) (by omega)
  refine ⟨μ, EV_bk (k := 400) ?_⟩
  rw [bk_243_856]
  simp only [ni_1, ni_2, hL, ni_c (n := l) (by omega), ni_in (n := i + 1) (N := l) (by omega) (by omega), ni_c (n := i + 1) (by omega), ni_in (n := i + 2) (N := l) (by omega) (by omega), ni_c (n := i + 2) (by omega), Nat.ble_eq.mpr (show c + 2 ≤ 601024 by omega), Nat.ble_eq.mpr (show s + 12 ≤ 7293033 by omega), Nat.ble_eq.mpr (show (c + 2) + 0 ≤ 601024 by omega), Nat.ble_eq.mpr (show (s + 12) + 0 ≤ 7293033 by omega), Nat.ble_eq.mpr (show ((c + 2) + 0) + 0 ≤ 601024 by omega), Nat.ble_eq.mpr (show ((s + 12) + 0) + 0 ≤ 7293033 by omega), cond_true, ew, ev_bi, s1.1, s1.2, eb, em_thrown, ht, ↓reduceIte]
  by_cases y : z = 0
  · simp only [y, hz y, ↓reduceIte]
    exact e
  · simp only [y, ↓reduceIte]
    exact e
theorem lc_924 (hl : LK lk) (h : GI d) (hn : 402 ≤ n) {l i c s : Nat} (hL : d 104 0 0 = Int32.ofNat l) (hl3 : l ≤ 3072) (hi : i + 6 ≤ l) (hc : c + 4 ≤ 601024) (hs : s + 24 ≤ 7293033) (K : LWK lk d i c s) : ∃ μ, EV (243, 924, [ev_R 103 0, ev_R 27 0, ev_R 44 0, ev_R 61 0, ev_I (Int32.ofNat i)], [], c, s) (n, lk, d, o) = some (.inl (some (ev_I 1)), μ) := by
  obtain ⟨z, n1, d1, o1, v, d2, ew, eb, ht, hz, s1, s2, g2, hn1⟩ := lw_234 hl h (x := d 103 0 (i + 1)) n o hn
  obtain ⟨μ, e⟩ := K n1 d2 o1 (((c + 1) + 0) + 0) (((s + 6) + 0) + 0) hn1 g2 s2 (by omega) (by omega)
  refine ⟨μ, EV_bk (k := 400) ?_⟩
  rw [bk_243_924]
  simp only [ni_1, hL, ni_c (n := l) (by omega), ni_in (n := i + 1) (N := l) (by omega) (by omega), ni_c (n := i + 1) (by omega), Nat.ble_eq.mpr (show c + 1 ≤ 601024 by omega), Nat.ble_eq.mpr (show s + 6 ≤ 7293033 by omega), Nat.ble_eq.mpr (show (c + 1) + 0 ≤ 601024 by omega), Nat.ble_eq.mpr (show (s + 6) + 0 ≤ 7293033 by omega), Nat.ble_eq.mpr (show ((c + 1) + 0) + 0 ≤ 601024 by omega), Nat.ble_eq.mpr (show ((s + 6) + 0) + 0 ≤ 7293033 by omega), cond_true, ew, ev_bi, s1.1, s1.2, eb, em_thrown, ht, ↓reduceIte]
  by_cases y : z = 0
  · simp only [y, hz y, ↓reduceIte]
    exact e
  · simp only [y, ↓reduceIte]
    exact e
theorem lc_980 (hl : LK lk) (h : GI d) (hn : 402 ≤ n) {l i c s : Nat} (hL : d 104 0 0 = Int32.ofNat l) (hl3 : l ≤ 3072) (hi : i + 6 ≤ l) (hc : c + 4 ≤ 601024) (hs : s + 24 ≤ 7293033) (K : LWK lk d i c s) : ∃ μ, EV (243, 980, [ev_R 103 0, ev_R 27 0, ev_R 44 0, ev_R 61 0, ev_I (Int32.ofNat i)], [], c, s) (n, lk, d, o) = some (.inl (some (ev_I 1)), μ) := by
  obtain ⟨z, n1, d1, o1, v, d2, ew, eb, ht, hz, s1, s2, g2, hn1⟩ := lw_235 hl h (x := d 103 0 (i + 1)) n o hn
  obtain ⟨μ, e⟩ := K n1 d2 o1 (((c + 1) + 0) + 0) (((s + 6) + 0) + 0) hn1 g2 s2 (by omega) (by omega)
  refine ⟨μ, EV_bk (k := 400) ?_⟩
  rw [bk_243_980]
  simp only [ni_1, hL, ni_c (n := l) (by omega), ni_in (n := i + 1) (N := l) (by omega) (by omega), ni_c (n := i + 1) (by omega), Nat.ble_eq.mpr (show c + 1 ≤ 601024 by omega), Nat.ble_eq.mpr (show s + 6 ≤ 7293033 by omega), Nat.ble_eq.mpr (show (c + 1) + 0 ≤ 601024 by omega), Nat.ble_eq.mpr (show (s + 6) + 0 ≤ 7293033 by omega), Nat.ble_eq.mpr (show ((c + 1) + 0) + 0 ≤ 601024 by omega), Nat.ble_eq.mpr (show ((s + 6) + 0) + 0 ≤ 7293033 by omega), cond_true, ew, ev_bi, s1.1, s1.2, eb, em_thrown, ht, ↓reduceIte]
  by_cases y : z = 0
  · simp only [y, hz y, ↓reduceIte]
    exact e
  · simp only [y, ↓reduceIte]
    exact e
theorem lc_1103 (hl : LK lk) (h : GI d) (hn : 402 ≤ n) {l i c s : Nat} (hL : d 104 0 0 = Int32.ofNat l) (hl3 : l ≤ 3072) (hi : i + 6 ≤ l) (hc : c + 4 ≤ 601024) (hs : s + 24 ≤ 7293033) (K : LWK lk d i c s) : ∃ μ, EV (243, 1103, [ev_R 103 0, ev_R 27 0, ev_R 44 0, ev_R 61 0, ev_I (Int32.ofNat i)], [], c, s) (n, lk, d, o) = some (.inl (some (ev_I 1)), μ) := by
  obtain ⟨z, n1, d1, o1, v, d2, ew, eb, ht, hz, s1, s2, g2, hn1⟩ := lw_236 hl h (x := d 103 0 (i + 1)) n o hn
  obtain ⟨μ, e⟩ := K n1 d2 o1 (((c + 1) + 0) + 0) (((s + 6) + 0) + 0) hn1 g2 s2 (by omega) (by omega)
  refine ⟨μ, EV_bk (k := 400) ?_⟩
  rw [bk_243_1103]
  simp only [ni_1, hL, ni_c (n := l) (by omega), ni_in (n := i + 1) (N := l) (by omega) (by omega), ni_c (n := i + 1) (by omega), Nat.ble_eq.mpr (show c + 1 ≤ 601024 by omega), Nat.ble_eq.mpr (show s + 6 ≤ 7293033 by omega), Nat.ble_eq.mpr (show (c + 1) + 0 ≤ 601024 by omega), Nat.ble_eq.mpr (show (s + 6) + 0 ≤ 7293033 by omega), Nat.ble_eq.mpr (show ((c + 1) + 0) + 0 ≤ 601024 by omega), Nat.ble_eq.mpr (show ((s + 6) + 0) + 0 ≤ 7293033 by omega), cond_true, ew, ev_bi, s1.1, s1.2, eb, em_thrown, ht, ↓reduceIte]
  by_cases y : z = 0
  · simp only [y, hz y, ↓reduceIte]
    exact e
  · simp only [y, ↓reduceIte]
    exact e
theorem lc_1159 (hl : LK lk) (h : GI d) (hn : 402 ≤ n) {l i c s : Nat} (hL : d 104 0 0 = Int32.ofNat l) (hl3 : l ≤ 3072) (hi : i + 6 ≤ l) (hc : c + 4 ≤ 601024) (hs : s + 24 ≤ 7293033) (K : LWK lk d i c s) : ∃ μ, EV (243, 1159, [ev_R 103 0, ev_R 27 0, ev_R 44 0, ev_R 61 0, ev_I (Int32.ofNat i)], [], c, s) (n, lk, d, o) = some (.inl (some (ev_I 1)), μ) := by
  obtain ⟨z, n1, d1, o1, v, d2, ew, eb, ht, hz, s1, s2, g2, hn1⟩ := lw_237 hl h (x := d 103 0 (i + 1)) n o hn
  obtain ⟨μ, e⟩ := K n1 d2 o1 (((c + 2) + 0) + 0) (((s + 12) + 0) + 0) hn1 g2 s2 (by omega) (by omega)
  refine ⟨μ, EV_bk (k := 400) ?_⟩
  rw [bk_243_1159]
  simp only [ni_1, hL, ni_c (n := l) (by omega), ni_in (n := i + 1) (N := l) (by omega) (by omega), ni_c (n := i + 1) (by omega), Nat.ble_eq.mpr (show c + 2 ≤ 601024 by omega), Nat.ble_eq.mpr (show s + 12 ≤ 7293033 by omega), Nat.ble_eq.mpr (show (c + 2) + 0 ≤ 601024 by omega), Nat.ble_eq.mpr (show (s + 12) + 0 ≤ 7293033 by omega), Nat.ble_eq.mpr (show ((c + 2) + 0) + 0 ≤ 601024 by omega), Nat.ble_eq.mpr (show ((s + 12) + 0) + 0 ≤ 7293033 by omega), cond_true, ew, ev_bi, s1.1, s1.2, eb, em_thrown, ht, ↓reduceIte]
  by_cases y : z = 0
  · simp only [y, hz y, ↓reduceIte]
    exact e
  · simp only [y, ↓reduceIte]
    exact e
theorem lc_1215 (hl : LK lk) (h : GI d) (hn : 402 ≤ n) {l i c s : Nat} (hL : d 104 0 0 = Int32.ofNat l) (hl3 : l ≤ 3072) (hi : i + 6 ≤ l) (hc : c + 4 ≤ 601024) (hs : s + 24 ≤ 7293033) (K : LWK lk d i c s) : ∃ μ, EV (243, 1215, [ev_R 103 0, ev_R 27 0, ev_R 44 0, ev_R 61 0, ev_I (Int32.ofNat i)], [], c, s) (n, lk, d, o) = some (.inl (some (ev_I 1)), μ) := by
  obtain ⟨z, n1, d1, o1, v, d2, ew, eb, ht, hz, s1, s2, g2, hn1⟩ := lw_238 hl h (x := d 103 0 (i + 1)) (y := d 103 0 (i + 2)) n o hn
  obtain ⟨μ, e⟩ := K n1 d2 o1 (((c + 2) + 0) + 0) (((s + 12) + 0) + 0) hn1 g2 s2 (by omega) (by omega)
  refine ⟨μ, EV_bk (k := 400) ?_⟩
  rw [bk_243_1215]
  simp only [ni_1, ni_2, hL, ni_c (n := l) (by omega), ni_in (n := i + 1) (N := l) (by omega) (by omega), ni_c (n := i + 1) (by omega), ni_in (n := i + 2) (N := l) (by omega) (by omega), ni_c (n := i + 2) (by omega), Nat.ble_eq.mpr (show c + 2 ≤ 601024 by omega), Nat.ble_eq.mpr (show s + 12 ≤ 7293033 by omega), Nat.ble_eq.mpr (show (c + 2) + 0 ≤ 601024 by omega), Nat.ble_eq.mpr (show (s + 12) + 0 ≤ 7293033 by omega), Nat.ble_eq.mpr (show ((c + 2) + 0) + 0 ≤ 601024 by omega), Nat.ble_eq.mpr (show ((s + 12) + 0) + 0 ≤ 7293033 by omega), cond_true, ew, ev_bi, s1.1, s1.2, eb, em_thrown, ht, ↓reduceIte]
  by_cases y : z = 0
  · simp only [y, hz y, ↓reduceIte]
    exact e
  · simp only [y, ↓reduceIte]
    exact e
theorem lc_1283 (hl : LK lk) (h : GI d) (hn : 402 ≤ n) {l i c s : Nat} (hL : d 104 0 0 = Int32.ofNat l) (hl3 : l ≤ 3072) (hi : i + 6 ≤ l) (hc : c + 4 ≤ 601024) (hs : s + 24 ≤ 7293033) (K : LWK lk d i c s) : ∃ μ, EV (243, 1283, [ev_R 103 0, ev_R 27 0, ev_R 44 0, ev_R 61 0, ev_I (Int32.ofNat i)], [], c, s) (n, lk, d, o) = some (.inl (some (ev_I 1)), μ) := by
  obtain ⟨z, n1, d1, o1, v, d2, ew, eb, ht, hz, s1, s2, g2, hn1⟩ := lw_239 hl h (x := d 103 0 (i + 1)) (y := d 103 0 (i + 2)) n o hn
  obtain ⟨μ, e⟩ := K n1 d2 o1 (((c + 4) + 0) + 0) (((s + 24) + 0) + 0) hn1 g2 s2 (by omega) (by omega)
  refine ⟨μ, EV_bk (k := 400) ?_⟩
  rw [bk_243_1283]
  simp only [ni_1, ni_2, hL, ni_c (n := l) (by omega), ni_in (n := i + 1) (N := l) (by omega) (by omega), ni_c (n := i + 1) (by omega), ni_in (n := i + 2) (N := l) (by omega) (by omega), ni_c (n := i + 2) (by omega), Nat.ble_eq.mpr (show c + 4 ≤ 601024 by omega), Nat.ble_eq.mpr (show s + 24 ≤ 7293033 by omega), Nat.ble_eq.mpr (show (c + 4) + 0 ≤ 601024 by omega), Nat.ble_eq.mpr (show (s + 24) + 0 ≤ 7293033 by omega), Nat.ble_eq.mpr (show ((c + 4) + 0) + 0 ≤ 601024 by omega), Nat.ble_eq.mpr (show ((s + 24) + 0) + 0 ≤ 7293033 by omega), cond_true, ew, ev_bi, s1.1, s1.2, eb, em_thrown, ht, ↓reduceIte]
  by_cases y : z = 0
  · simp only [y, hz y, ↓reduceIte]
    exact e
  · simp only [y, ↓reduceIte]
    exact e
theorem lc_1351 (hl : LK lk) (h : GI d) (hn : 402 ≤ n) {l i c s : Nat} (hL : d 104 0 0 = Int32.ofNat l) (hl3 : l ≤ 3072) (hi : i + 6 ≤ l) (hc : c + 4 ≤ 601024) (hs : s + 24 ≤ 7293033) (K : LWK lk d i c s) : ∃ μ, EV (243, 1351, [ev_R 103 0, ev_R 27 0, ev_R 44 0, ev_R 61 0, ev_I (Int32.ofNat i)], [], c, s) (n, lk, d, o) = some (.inl (some (ev_I 1)), μ) := by
  obtain ⟨z, n1, d1, o1, v, d2, ew, eb, ht, hz, s1, s2, g2, hn1⟩ := lw_240 hl h (x := d 103 0 (i + 1)) (y := d 103 0 (i + 2)) n o hn
  obtain ⟨μ, e⟩ := K n1 d2 o1 (((c + 2) + 0) + 0) (((s + 12) + 0) + 0) hn1 g2 s2 (by omega) (by omega)
  refine ⟨μ, EV_bk (k := 400) ?_⟩
  rw [bk_243_1351]
  simp only [ni_1, ni_2, hL, ni_c (n := l) (by omega), ni_in (n := i + 1) (N := l) (by omega) (by omega), ni_c (n := i + 1) (by omega), ni_in (n := i + 2) (N := l) (by omega) (by omega), ni_c (n := i + 2) (by omega), Nat.ble_eq.mpr (show c + 2 ≤ 601024 by omega), Nat.ble_eq.mpr (show s + 12 ≤ 7293033 by omega), Nat.ble_eq.mpr (show (c + 2) + 0 ≤ 601024 by omega), Nat.ble_eq.mpr (show (s + 12) + 0 ≤ 7293033 by omega), Nat.ble_eq.mpr (show ((c + 2) + 0) + 0 ≤ 601024 by omega), Nat.ble_eq.mpr (show ((s + 12) + 0) + 0 ≤ 7293033 by omega), cond_true, ew, ev_bi, s1.1, s1.2, eb, em_thrown, ht, ↓reduceIte]
  by_cases y : z = 0
  · simp only [y, hz y, ↓reduceIte]
    exact e
  · simp only [y, ↓reduceIte]
    exact e
theorem lc_1536 (hl : LK lk) (h : GI d) (hn : 402 ≤ n) {l i c s : Nat} (hL : d 104 0 0 = Int32.ofNat l) (hl3 : l ≤ 3072) (hi : i + 6 ≤ l) (hc : c + 4 ≤ 601024) (hs : s + 24 ≤ 7293033) (K : LWK lk d i c s) : ∃ μ, EV (243, 1536, [ev_R 103 0, ev_R 27 0, ev_R 44 0, ev_R 61 0, ev_I (Int32.ofNat i)], [], c, s) (n, lk, d, o) = some (.inl (some (ev_I 1)), μ) := by
  obtain ⟨z, n1, d1, o1, v, d2, ew, eb, ht, hz, s1, s2, g2, hn1⟩ := lw_242 hl h (x := d 103 0 (i + 1)) n o hn
  obtain ⟨μ, e⟩ := K n1 d2 o1 (((c + 2) + 0) + 0) (((s + 12) + 0) + 0) hn1 g2 s2 (by omega) (by omega)
  refine ⟨μ, EV_bk (k := 400) ?_⟩
  rw [bk_243_1536]
  simp only [ni_1, hL, ni_c (n := l) (by omega), ni_in (n := i + 1) (N := l) (by omega) (by omega), ni_c (n := i + 1) (by omega), Nat.ble_eq.mpr (show c + 2 ≤ 601024 by omega), Nat.ble_eq.mpr (show s + 12 ≤ 7293033 by omega), Nat.ble_eq.mpr (show (c + 2) + 0 ≤ 601024 by omega), Nat.ble_eq.mpr (show (s + 12) + 0 ≤ 7293033 by omega), Nat.ble_eq.mpr (show ((c + 2) + 0) + 0 ≤ 601024 by omega), Nat.ble_eq.mpr (show ((s + 12) + 0) + 0 ≤ 7293033 by omega), cond_true, ew, ev_bi, s1.1, s1.2, eb, em_thrown, ht, ↓reduceIte]
  by_cases y : z = 0
  · simp only [y, hz y, ↓reduceIte]
    exact e
  · simp only [y, ↓reduceIte]
    exact e
theorem lc_297 (hl : LK lk) (h : GI d) (hn : 402 ≤ n) {i c s : Nat} (hc : c + 4 ≤ 601024) (hs : s + 24 ≤ 7293033) (K : LWK lk d i c s) : ∃ μ, EV (243, 297, [ev_R 103 0, ev_R 27 0, ev_R 44 0, ev_R 61 0, ev_I (Int32.ofNat i)], [], c, s) (n, lk, d, o) = some (.inl (some (ev_I 1)), μ) := by
  obtain ⟨v, d1, d2, s1, s2, g2, ea, eb⟩ := op_errorPosition (lk := lk) h n o hn
  obtain ⟨μ, e⟩ := K n d2 o ((c + 0) + 0) ((s + 0) + 0) hn g2 s2 (by omega) (by omega)
  refine ⟨μ, EV_bk (k := 400) ?_⟩
  rw [bk_243_297]
  simp only [Nat.ble_eq.mpr (show c + 0 ≤ 601024 by omega), Nat.ble_eq.mpr (show s + 0 ≤ 7293033 by omega), Nat.ble_eq.mpr (show (c + 0) + 0 ≤ 601024 by omega), Nat.ble_eq.mpr (show (s + 0) + 0 ≤ 7293033 by omega), cond_true, ea, ev_bi, eb, ↓reduceIte]
  exact e
theorem lc_706 (hl : LK lk) (h : GI d) (hn : 402 ≤ n) {i c s : Nat} (hc : c + 4 ≤ 601024) (hs : s + 24 ≤ 7293033) (K : LWK lk d i c s) : ∃ μ, EV (243, 706, [ev_R 103 0, ev_R 27 0, ev_R 44 0, ev_R 61 0, ev_I (Int32.ofNat i)], [], c, s) (n, lk, d, o) = some (.inl (some (ev_I 1)), μ) := by
  obtain ⟨v, d1, d2, s1, s2, g2, ea, eb⟩ := op_weakest hl h n o hn
  obtain ⟨μ, e⟩ := K n d2 o ((c + 0) + 0) ((s + 0) + 0) hn g2 s2 (by omega) (by omega)
  refine ⟨μ, EV_bk (k := 400) ?_⟩
  rw [bk_243_706]
  simp only [Nat.ble_eq.mpr (show c + 0 ≤ 601024 by omega), Nat.ble_eq.mpr (show s + 0 ≤ 7293033 by omega), Nat.ble_eq.mpr (show (c + 0) + 0 ≤ 601024 by omega), Nat.ble_eq.mpr (show (s + 0) + 0 ≤ 7293033 by omega), cond_true, ea, ev_bi, eb, ↓reduceIte]
  exact e
theorem lc_787 (hl : LK lk) (h : GI d) (hn : 402 ≤ n) {i c s : Nat} (hc : c + 4 ≤ 601024) (hs : s + 24 ≤ 7293033) (K : LWK lk d i c s) : ∃ μ, EV (243, 787, [ev_R 103 0, ev_R 27 0, ev_R 44 0, ev_R 61 0, ev_I (Int32.ofNat i)], [], c, s) (n, lk, d, o) = some (.inl (some (ev_I 1)), μ) := by
  obtain ⟨v, d1, d2, s1, s2, g2, ea, eb⟩ := op_nextLoss hl h n o hn
  obtain ⟨μ, e⟩ := K n d2 o ((c + 0) + 0) ((s + 0) + 0) hn g2 s2 (by omega) (by omega)
  refine ⟨μ, EV_bk (k := 400) ?_⟩
  rw [bk_243_787]
  simp only [Nat.ble_eq.mpr (show c + 0 ≤ 601024 by omega), Nat.ble_eq.mpr (show s + 0 ≤ 7293033 by omega), Nat.ble_eq.mpr (show (c + 0) + 0 ≤ 601024 by omega), Nat.ble_eq.mpr (show (s + 0) + 0 ≤ 7293033 by omega), cond_true, ea, ev_bi, eb, ↓reduceIte]
  exact e
theorem lc_1077 (hl : LK lk) (h : GI d) (hn : 402 ≤ n) {i c s : Nat} (hc : c + 4 ≤ 601024) (hs : s + 24 ≤ 7293033) (K : LWK lk d i c s) : ∃ μ, EV (243, 1077, [ev_R 103 0, ev_R 27 0, ev_R 44 0, ev_R 61 0, ev_I (Int32.ofNat i)], [], c, s) (n, lk, d, o) = some (.inl (some (ev_I 1)), μ) := by
  obtain ⟨v, d1, d2, s1, s2, g2, ea, eb⟩ := op_greatest hl h n o hn
  obtain ⟨μ, e⟩ := K n d2 o ((c + 0) + 0) ((s + 0) + 0) hn g2 s2 (by omega) (by omega)
  refine ⟨μ, EV_bk (k := 400) ?_⟩
  rw [bk_243_1077]
  simp only [Nat.ble_eq.mpr (show c + 0 ≤ 601024 by omega), Nat.ble_eq.mpr (show s + 0 ≤ 7293033 by omega), Nat.ble_eq.mpr (show (c + 0) + 0 ≤ 601024 by omega), Nat.ble_eq.mpr (show (s + 0) + 0 ≤ 7293033 by omega), cond_true, ea, ev_bi, eb, ↓reduceIte]
  exact e
theorem lc_1090 (hl : LK lk) (h : GI d) (hn : 402 ≤ n) {i c s : Nat} (hc : c + 4 ≤ 601024) (hs : s + 24 ≤ 7293033) (K : LWK lk d i c s) : ∃ μ, EV (243, 1090, [ev_R 103 0, ev_R 27 0, ev_R 44 0, ev_R 61 0, ev_I (Int32.ofNat i)], [], c, s) (n, lk, d, o) = some (.inl (some (ev_I 1)), μ) := by
  obtain ⟨v, d1, d2, s1, s2, g2, ea, eb⟩ := op_isWhole hl h n o hn
  obtain ⟨μ, e⟩ := K n d2 o ((c + 0) + 0) ((s + 0) + 0) hn g2 s2 (by omega) (by omega)
  refine ⟨μ, EV_bk (k := 400) ?_⟩
  rw [bk_243_1090]
  simp only [Nat.ble_eq.mpr (show c + 0 ≤ 601024 by omega), Nat.ble_eq.mpr (show s + 0 ≤ 7293033 by omega), Nat.ble_eq.mpr (show (c + 0) + 0 ≤ 601024 by omega), Nat.ble_eq.mpr (show (s + 0) + 0 ≤ 7293033 by omega), cond_true, ea, ev_bi, eb, ↓reduceIte]
  exact e
theorem lc_1460 (hl : LK lk) (h : GI d) (hn : 402 ≤ n) {i c s : Nat} (hc : c + 4 ≤ 601024) (hs : s + 24 ≤ 7293033) (K : LWK lk d i c s) : ∃ μ, EV (243, 1460, [ev_R 103 0, ev_R 27 0, ev_R 44 0, ev_R 61 0, ev_I (Int32.ofNat i)], [], c, s) (n, lk, d, o) = some (.inl (some (ev_I 1)), μ) := by
  obtain ⟨v, d1, d2, s1, s2, g2, ea, eb⟩ := op_undo hl h n o hn
  obtain ⟨μ, e⟩ := K n d2 o ((c + 0) + 0) ((s + 0) + 0) hn g2 s2 (by omega) (by omega)
  refine ⟨μ, EV_bk (k := 400) ?_⟩
  rw [bk_243_1460]
  simp only [Nat.ble_eq.mpr (show c + 0 ≤ 601024 by omega), Nat.ble_eq.mpr (show s + 0 ≤ 7293033 by omega), Nat.ble_eq.mpr (show (c + 0) + 0 ≤ 601024 by omega), Nat.ble_eq.mpr (show (s + 0) + 0 ≤ 7293033 by omega), cond_true, ea, ev_bi, eb, ↓reduceIte]
  exact e
end EC51
