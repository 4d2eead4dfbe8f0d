/-! THE LAW'S OWN MEMORY, 2: what looks at it -/
section LM2
variable {n : Nat} {lk : Nat → Nat → Nat → Bool} {d : Nat → Nat → Nat → Int32} {wn : Nat} {tt : Nat → Nat} {e : Nat → Nat → Nat → Int32} {q : Nat → Nat → Nat → Nat} {i : Nat} {t w u : Nat → Int32}
theorem lm_hot (hq : LQ q i) (h : LV e i t w u) {b : Nat} (hb : b < 4) : EV (264, 0, [ev_R 200 i, ev_R 201 (i + 9 + 9 * b)], [], 0, 0) (n, lk, d, wn, tt, e, q) = some (.inl (some (ev_I (if ms_hot w b then 1 else 0))), (n, lk, d, wn, tt, e, q)) := by
  refine EV_bk (k := 400) ?_
  have h1 : e 201 (i + 9 + 9 * b) 1 = w (20 + 9 * b) := (h _ _ _ _ _ (la_bk hb (k := 1) (by omega))).trans (congrArg w (by omega))
  have h2 : e 202 (i + 1) 3 = w 3 := h _ _ _ _ _ (la_set (k := 3) (by omega))
  rw [bk_264_0, hq.1.1, ev_lq_s, h1, h2]
  by_cases z : w (20 + 9 * b) < w 3
  · rw [if_pos z, if_neg (Int32.not_le.mpr z)]
  · rw [if_neg z, if_pos (Int32.not_lt.mp z)]
theorem lm_limit (hq : LQ q i) (h : LV e i t w u) {b r : Nat} (hb : b < 4) (hr : r < 16) (x : Int32) : EV (265, 0, [ev_R 200 i, ev_R 201 (i + 9 + 9 * b), ev_I (Int32.ofNat r), ev_I x], [], 0, 0) (n, lk, d, wn, tt, e, q) = some (.inl (some (ev_I (ms_bnd t w (16 * b + r) x))), (n, lk, d, wn, tt, e, q)) := by
  have fin : ∀ y : Int32, y = ms_cool t w (16 * b + r) → EV (265, 44, [ev_R 200 i, ev_R 201 (i + 9 + 9 * b), ev_I (Int32.ofNat r), ev_I x, ev_I y], [], 0, 0) (n, lk, d, wn, tt, e, q) = some (.inl (some (ev_I (ms_bnd t w (16 * b + r) x))), (n, lk, d, wn, tt, e, q)) := fun y hy => by
    refine EV_bk (k := 400) ?_
    rw [bk_265_44, hy]
    unfold ms_bnd ms_half
    by_cases z : x = 0
    · rw [if_pos z, if_pos z]
    · rw [if_neg z, if_neg z]
      by_cases c : (1 : Int32) < ms_cool t w (16 * b + r) / 2
      · rw [if_pos c, if_neg (fun z => Int32.not_lt.mpr (Int32.le_of_lt c) z)]
      · rw [if_neg c]
        by_cases c2 : ms_cool t w (16 * b + r) / 2 < 1
        · rw [if_pos c2]
        · rw [if_neg c2]
          have : ms_cool t w (16 * b + r) / 2 = 1 := by
            have a1 := Int32.not_lt.mp c
            have a2 := Int32.not_lt.mp c2
            exact Int32.le_antisymm a1 a2
          rw [this]
  obtain ⟨-, hQ⟩ := hq
  obtain ⟨-, q13, q14, -⟩ := hQ b hb
  have h1 : e 205 (i + 9 + 9 * b + 1) r = t (4 + 2 * (16 * b + r)) := h _ _ _ _ _ (la_own hb hr)
  have h2 : e 205 (i + 9 + 9 * b + 2) r = t (4 + 2 * (16 * b + r) + 1) := h _ _ _ _ _ (la_from hb hr)
  have h3 : e 200 i 2 = t 2 := h _ _ _ _ _ (la_f (k := 2) (by omega))
  have h4 : e 200 i 4 = w 8 := h _ _ _ _ _ la_time
  refine EV_bk (k := 400) ?_
  rw [bk_265_0]
  simp only [q13, q14, ev_lq_s, ni_in (n := r) (N := 16) hr (by omega), ni_c (n := r) (by omega), h1, h2, h3, h4, cond_true]
  by_cases z1 : t (4 + 2 * (16 * b + r)) ≤ 0
  · rw [if_pos z1]
    refine fin _ ?_
    unfold ms_cool
    rw [if_neg (fun z => Int32.not_lt.mpr z1 z.1)]
  · rw [if_neg z1]
    by_cases z2 : w 8 < t (4 + 2 * (16 * b + r) + 1)
    · rw [if_pos z2]
      refine fin _ ?_
      unfold ms_cool
      rw [if_neg (fun z => Int32.not_lt.mpr z.2.1 z2)]
    · rw [if_neg z2]
      refine fin _ ?_
      unfold ms_cool
      by_cases z3 : t (4 + 2 * (16 * b + r)) < t 2
      · rw [if_pos z3, if_pos ⟨Int32.not_le.mp z1, Int32.not_lt.mp z2, z3⟩]
      · rw [if_neg z3, if_neg (fun z => z3 z.2.2)]
theorem ms_bnd_hot (t w : Nat → Int32) (b r : Nat) : ms_bnd t w (16 * b + r) (if ms_hot w b then 1 else 0) = ms_bound t w b r := by
  unfold ms_bnd ms_bound
  by_cases z : ms_hot w b
  · rw [if_pos z, if_pos z, if_neg (by decide)]
  · rw [if_neg z, if_neg z, if_pos rfl]
theorem lm_remains (hq : LQ q i) (h : LV e i t w u) {b r : Nat} (hb : b < 4) (hr : r < 16) : EV (266, 0, [ev_R 200 i, ev_R 201 (i + 9 + 9 * b), ev_I (Int32.ofNat r)], [], 0, 0) (n, lk, d, wn, tt, e, q) = some (.inl (some (ev_I (ms_rem t w b r))), (n, lk, d, wn, tt, e, q)) := by
  refine EV_bk (k := 400) ?_
  have h1 : e 205 (i + 9 + 9 * b + 3) r = w (55 + 5 * (16 * b + r)) := h _ _ _ _ _ (la_age hb hr)
  have e1 := lm_hot (n := n) (lk := lk) (d := d) (wn := wn) (tt := tt) hq h hb
  have e2 := lm_limit (n := n) (lk := lk) (d := d) (wn := wn) (tt := tt) hq h hb hr (if ms_hot w b then 1 else 0)
  rw [bk_266_0, e1]
  simp only [ev_bi, e2, (hq.2 b hb).2.2.2.1, ev_lq_s, ni_in (n := r) (N := 16) hr (by omega), ni_c (n := r) (by omega), cond_true, h1, ms_bnd_hot]
  rfl
theorem lm_weak (hq : LQ q i) (h : LV e i t w u) {b R : Nat} (hb : b < 4) (hR : t 1 = Int32.ofNat R) (h1 : 1 ≤ R) (h16 : R ≤ 16) : EV (267, 0, [ev_R 200 i, ev_R 201 (i + 9 + 9 * b)], [], 0, 0) (n, lk, d, wn, tt, e, q) = some (.inl (some (ev_I (Int32.ofNat (ms_weak t w b R)))), (n, lk, d, wn, tt, e, q)) := by
  have h3 : e 200 i 1 = Int32.ofNat R := (h _ _ _ _ _ (la_f (k := 1) (by omega))).trans hR
  have loop : ∀ j k, k + j = R → 1 ≤ k → EV (267, 4, [ev_R 200 i, ev_R 201 (i + 9 + 9 * b), ev_I (Int32.ofNat (ms_weak t w b k)), ev_I (Int32.ofNat k)], [], 0, 0) (n, lk, d, wn, tt, e, q) = some (.inl (some (ev_I (Int32.ofNat (ms_weak t w b R)))), (n, lk, d, wn, tt, e, q)) := by
    intro j
    induction j with
    | zero =>
      intro k hk _
      refine EV_bk (k := 400) ?_
      rw [bk_267_4, h3, if_neg (fun z => by have := (ni_lt (by omega) (by omega)).mp z; omega), show k = R by omega]
    | succ j ih =>
      intro k hk hk1
      have ih := ih (k + 1) (by omega) (by omega)
      have hw : ms_weak t w b k < 16 := by rcases ms_weak_le t w b k with z | z <;> omega
      refine EV_bk (k := 400) ?_
      rw [bk_267_4, h3, if_pos ((ni_lt (by omega) (by omega)).mpr (by omega)), lm_remains hq h hb (r := k) (by omega)]
      simp only [ev_bi, lm_remains hq h hb hw, ni_1]
      have hs : ms_weak t w b (k + 1) = if ms_rem t w b k < ms_rem t w b (ms_weak t w b k) then k else ms_weak t w b k := rfl
      rw [hs] at ih
      by_cases z : ms_rem t w b k < ms_rem t w b (ms_weak t w b k)
      · rw [if_pos z] at ih ⊢
        exact ih
      · rw [if_neg z] at ih ⊢
        exact ih
  have h0 : ms_weak t w b 1 = 0 := by
    show (if ms_rem t w b 0 < ms_rem t w b 0 then 0 else 0) = 0
    split <;> rfl
  have := loop (R - 1) 1 (by omega) (by omega)
  rw [h0] at this
  refine EV_bk (k := 400) ?_
  rw [bk_267_0]
  exact this
theorem lm_refreshes {k : Nat} (hk : k < 7) : EV (269, 0, [ev_I (Int32.ofNat k)], [], 0, 0) (n, lk, d, wn, tt, e, q) = some (.inl (some (ev_I (if ms_rf k then 1 else 0))), (n, lk, d, wn, tt, e, q)) := by
  refine EV_bk (k := 400) ?_
  rw [bk_269_0]
  match k, hk with
  | 0, _ => rfl
  | 1, _ => rfl
  | 2, _ => rfl
  | 3, _ => rfl
  | 4, _ => rfl
  | 5, _ => rfl
  | 6, _ => rfl
end LM2
