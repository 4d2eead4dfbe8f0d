/-! THE PROGRAM AGAINST THE REFERENCE, 69: the parts of the program are made -/
theorem sx_3 : ∀ k, k < 10 → ev_sx (3 + k) = 92 + 24 * k := by decide
theorem sx_13 : ∀ k, k < 2 → ev_sx (13 + k) = 335 + 24 * k := by decide
section EC54
variable {n : Nat} {lk : Nat → Nat → Nat → Bool} {d : Nat → Nat → Nat → Int32} {o : ev_W}
theorem cn_24 {i : Nat} (hi : i < 2) (hn : n = ev_sq 25 i + 1) (h26 : ev_sq 26 i = ev_sq 25 i + 1) : ∃ lk' d', EV (24, 0, [ev_R 24 i], [], 0, 0) (n, lk, d, o) = some (.inl none, (n + 2, lk', d', o)) ∧ CGL 24 26 i lk lk' ∧ (lk' 24 i 5 = true ∧ lk' 24 i 6 = true) ∧ CG 24 26 i d d' ∧ (d' 24 i 0 = 1 ∧ d' 24 i 1 = 1 ∧ d' 24 i 2 = 4 ∧ d' 24 i 3 = 1 ∧ d' 24 i 4 = 0) ∧ ∀ c, c < 64 → d' 25 i c = -1 ∧ d' 26 i c = -1 := by
  have a5 : ev_lk (ev_nl (ev_lk (ev_nl lk 25 i) 24 i 5 true) 26 i) 24 i 6 true 24 i 5 = true := by simp (disch := omega) only [lkn, nln, lks]
  have a6 : ev_lk (ev_nl (ev_lk (ev_nl lk 25 i) 24 i 5 true) 26 i) 24 i 6 true 24 i 6 = true := lks
  obtain ⟨d1, e1, f1, g1, g1'⟩ := ec_reset25 (n := n + 1 + 1) (lk := ev_lk (ev_nl (ev_lk (ev_nl lk 25 i) 24 i 5 true) 26 i) 24 i 6 true) (d := ev_w3 (ev_w3 d 25 i (fun _ => 0)) 26 i (fun _ => 0)) (o := o) (i := i) a5 a6
  refine ⟨_, d1, EV_bk (k := 400) ?_, ?_, ⟨a5, a6⟩, ?_, g1, g1'⟩
  · rw [bk_24_0]
    simp (disch := first | omega | decide) only [cnd, Nat.beq_refl, cond_true, ev_bv, e1]
  · intro r j k h
    simp (disch := omega) only [lkn, nln]
  · exact CG_t (CG_t (CG_w (by decide) (by decide)) (CG_w (by decide) (by decide))) f1
theorem cn_17 (hn : n = 4) : EV (17, 0, [ev_R 29 0], [], 0, 0) (n, lk, d, o) = some (.inl none, (n + 1, ev_lk (ev_nl lk 30 0) 29 0 0 true, ev_w3 d 30 0 (fun _ => 0), o)) := by
  subst hn
  refine EV_bk (k := 400) ?_
  rw [bk_17_0]
  rfl
theorem cn_30 (hn : n = 3) : ∃ lk' d', EV (30, 0, [ev_R 28 0], [], 0, 0) (n, lk, d, o) = some (.inl none, (n + 30, lk', d', o)) ∧ (lk' 28 0 0 = true ∧ lk' 28 0 1 = true ∧ lk' 28 0 2 = true ∧ lk' 28 0 3 = true ∧ lk' 29 0 0 = true ∧ lk' 24 0 5 = true ∧ lk' 24 0 6 = true) ∧ LSI lk' 0 ∧ d' 29 0 1 = 0 ∧ (∀ r, 31 < r → d' r = d r) := by
  have q29 : ev_sq 29 0 = 2 := by decide
  have q24 : ev_sq 24 0 = 4 := by decide
  have q31 : ev_sq 31 0 = 31 := by decide
  have q0 : ev_sx 0 = 7 := by decide
  obtain ⟨l1, d1, e1, g1, ⟨t5, t6⟩, f1, -, -⟩ := cn_24 (n := n + 1 + 1 + 1) (lk := ev_nl (ev_lk (ev_lk (ev_nl (ev_nl lk 29 0) 30 0) 29 0 0 true) 28 0 0 true) 24 0) (d := ev_w3 (ev_w3 (ev_w3 d 29 0 (fun _ => 0)) 30 0 (fun _ => 0)) 24 0 (fun _ => 0)) (o := o) (i := 0) (by decide) (by rw [hn]; decide) (by decide)
  obtain ⟨l2, d2, e2, g2, s2, f2, c2⟩ := cn_61 (n := n + 1 + 1 + 1 + 2 + 1) (lk := ev_nl (ev_lk l1 28 0 1 true) 0 0) (d := ev_w3 d1 0 0 (fun _ => 0)) (o := o) (i := 0) (by decide) (by rw [hn]; decide)
  have h1 : ∀ r j k, r < 24 ∨ 26 < r ∨ j ≠ 0 → l1 r j k = ev_nl (ev_lk (ev_lk (ev_nl (ev_nl lk 29 0) 30 0) 29 0 0 true) 28 0 0 true) 24 0 r j k := g1
  have h2 : ∀ r j k, r < 0 ∨ 23 < r ∨ j ≠ 0 → l2 r j k = ev_nl (ev_lk l1 28 0 1 true) 0 0 r j k := g2
  have k1 : ∀ r j, r < 24 ∨ 26 < r ∨ j ≠ 0 → d1 r j = ev_w3 (ev_w3 (ev_w3 d 29 0 (fun _ => 0)) 30 0 (fun _ => 0)) 24 0 (fun _ => 0) r j := f1
  have k2 : ∀ r j, r < 0 ∨ 23 < r ∨ j ≠ 0 → d2 r j = ev_w3 d1 0 0 (fun _ => 0) r j := f2
  refine ⟨ev_lk (ev_nl (ev_lk l2 28 0 2 true) 31 0) 28 0 3 true, ev_w3 d2 31 0 (fun _ => 0), EV_bk (k := 400) ?_, ⟨?_, ?_, ?_, lks, ?_, ?_, ?_⟩, ?_, ?_, ?_⟩
  · rw [bk_30_0]
    simp (disch := first | omega | decide) only [q29, q24, sq_le, q0, q31, cnd, cond_true, ev_bv, cn_17, e1, e2]
  · simp (disch := omega) only [lkn, nln, lks, h2, h1]
  · simp (disch := omega) only [lkn, nln, lks, h2, h1]
  · simp (disch := omega) only [lkn, nln, lks, h2, h1]
  · simp (disch := omega) only [lkn, nln, lks, h2, h1]
  · simp (disch := omega) only [lkn, nln, lks, h2, t5]
  · simp (disch := omega) only [lkn, nln, lks, h2, t6]
  · intro r k hr hir hk
    rw [lkn (by omega), nln (by omega), lkn (by omega)]
    exact s2 r k hr hir hk
  · rw [w3n (by decide), k2 29 0 (by omega), w3n (by decide), k1 29 0 (by omega), w3n (by decide), w3n (by decide), w3s]
  · intro r hr
    rw [w3n (by omega)]
    funext j
    rw [k2 r j (by omega), w3n (by omega), k1 r j (by omega), w3n (by omega), w3n (by omega), w3n (by omega)]
theorem cn_69 (hn : n = 34) : ∃ lk' d', EV (69, 0, [ev_R 32 0], [], 0, 0) (n, lk, d, o) = some (.inl none, (n + 9, lk', d', o)) ∧ (∀ r j k, (r < 24 ∨ 38 < r ∨ (26 < r ∧ r < 32) ∨ (r ≤ 26 ∧ j ≠ 1)) → lk' r j k = lk r j k) ∧ (lk' 24 1 5 = true ∧ lk' 24 1 6 = true) ∧ (∀ k, k < 7 → lk' 32 0 k = true) ∧ (∀ r j, (r < 24 ∨ 38 < r ∨ (26 < r ∧ r < 33) ∨ (r ≤ 26 ∧ j ≠ 1)) → d' r j = d r j) ∧
    (d' 24 1 0 = 1 ∧ d' 24 1 1 = 1 ∧ d' 24 1 2 = 4 ∧ d' 24 1 3 = 1 ∧ d' 24 1 4 = 0) ∧ ∀ c, c < 64 → d' 25 1 c = -1 ∧ d' 26 1 c = -1 := by
  have q24 : ev_sq 24 1 = 33 := by decide
  have q33 : ev_sq 33 0 = 36 := by decide
  have q34 : ev_sq 34 0 = 37 := by decide
  have q35 : ev_sq 35 0 = 38 := by decide
  have q36 : ev_sq 36 0 = 39 := by decide
  have q37 : ev_sq 37 0 = 40 := by decide
  have q38 : ev_sq 38 0 = 41 := by decide
  obtain ⟨l1, d1, e1, g1, ⟨t5, t6⟩, f1, x1, x2⟩ := cn_24 (n := n + 1) (lk := ev_nl lk 24 1) (d := ev_w3 d 24 1 (fun _ => 0)) (o := o) (i := 1) (by decide) (by rw [hn]; decide) (by decide)
  have h1 : ∀ r j k, r < 24 ∨ 26 < r ∨ j ≠ 1 → l1 r j k = ev_nl lk 24 1 r j k := g1
  have k1 : ∀ r j, r < 24 ∨ 26 < r ∨ j ≠ 1 → d1 r j = ev_w3 d 24 1 (fun _ => 0) r j := f1
  have hb := bk_69_0 (r := EV) (n := n) (lk := lk) (d := d) (o := o)
  simp (disch := first | omega | decide) only [q24, q33, q34, q35, q36, q37, q38, cnd, cond_true, ev_bv, e1] at hb
  refine ⟨_, _, EV_bk (k := 400) hb, ?_, ⟨?_, ?_⟩, ?_, ?_, ?_, ?_⟩
  · intro r j k h
    simp (disch := omega) only [lkn, nln, lks, h1]
  · simp (disch := omega) only [lkn, nln, lks, t5]
  · simp (disch := omega) only [lkn, nln, lks, t6]
  · intro k hk
    match k, hk with
    | 0, _ => simp (disch := omega) only [lkn, nln, lks]
    | 1, _ => simp (disch := omega) only [lkn, nln, lks]
    | 2, _ => simp (disch := omega) only [lkn, nln, lks]
    | 3, _ => simp (disch := omega) only [lkn, nln, lks]
    | 4, _ => simp (disch := omega) only [lkn, nln, lks]
    | 5, _ => simp (disch := omega) only [lkn, nln, lks]
    | 6, _ => simp (disch := omega) only [lkn, nln, lks]
  · intro r j h
    have w : ∀ (e : Nat → Nat → Nat → Int32) (x : Nat), (32 < x ∧ x < 39) → ev_w3 e x 0 (fun _ => 0) r j = e r j := fun e x hx => by rw [w3n (by omega)]
    rw [w _ 38 (by omega), w _ 37 (by omega), w _ 36 (by omega), w _ 35 (by omega), w _ 34 (by omega), w _ 33 (by omega), k1 r j (by omega)]
    by_cases e : r = 24
    · subst e
      rw [w3j (by omega)]
    · rw [w3n e]
  · simp (disch := omega) only [w3n]
    exact x1
  · intro c hc
    simp (disch := omega) only [w3n]
    exact x2 c hc
theorem cn_13 (hn : n = 92) : ∃ lk' d', EV (13, 0, [ev_R 39 0], [], 0, 0) (n, lk, d, o) = some (.inl none, (n + 241, lk', d', o)) ∧ (∀ r j k, (23 < r ∨ j < 3 ∨ 12 < j) → r ≠ 39 → r ≠ 40 → lk' r j k = lk r j k) ∧ lk' 39 0 0 = true ∧ (∀ k, k < 10 → lk' 40 0 k = true) ∧ (∀ i, i < 10 → LSI lk' (3 + i)) ∧ (∀ r j, (23 < r ∨ j < 3 ∨ 12 < j) → r ≠ 40 → d' r j = d r j) := by
  have q40 : ev_sq 40 0 = 91 := by decide
  have loop : ∀ j k, k + j = 10 → ∀ (n : Nat) (lk : Nat → Nat → Nat → Bool) (d : Nat → Nat → Nat → Int32) c s, n = 93 + 24 * k → c = 1 + 24 * k → s = 10 + 630 * k → lk 39 0 0 = true → (∀ i, i < k → lk 40 0 i = true) → (∀ i, i < k → LSI lk (3 + i)) →
      ∃ lk' d', EV (13, 15, [ev_R 39 0, ev_I (Int32.ofNat k)], [], c, s) (n, lk, d, o) = some (.inl none, (333, lk', d', o)) ∧ (∀ r j k, (23 < r ∨ j < 3 ∨ 12 < j) → r ≠ 39 → r ≠ 40 → lk' r j k = lk r j k) ∧ lk' 39 0 0 = true ∧ (∀ k, k < 10 → lk' 40 0 k = true) ∧ (∀ i, i < 10 → LSI lk' (3 + i)) ∧ (∀ r j, (23 < r ∨ j < 3 ∨ 12 < j) → r ≠ 40 → d' r j = d r j) := by
    intro j
    induction j with
    | zero =>
      intro k hk n lk d c s hn hc hs h39 h40 hL
      have hk' : k = 10 := hk
      subst hk'
      have hn' : n = 333 := by omega
      subst hn'
      refine ⟨lk, d, EV_bk (k := 400) ?_, fun _ _ _ _ _ _ => rfl, h39, h40, hL, fun _ _ _ _ => rfl⟩
      rw [bk_13_15, if_neg (by decide)]
    | succ j ih =>
      intro k hk n lk d c s hn hc hs h39 h40 hL
      have hx := sx_3 k (by omega)
      obtain ⟨l1, d1, e1, g1, s1, f1, -⟩ := cn_61 (n := n + 1) (lk := ev_nl lk 0 (3 + k)) (d := ev_w3 d 0 (3 + k) (fun _ => 0)) (o := o) (i := 3 + k) (by omega) (by omega)
      have h1 : ∀ r j c, r < 0 ∨ 23 < r ∨ j ≠ 3 + k → l1 r j c = ev_nl lk 0 (3 + k) r j c := g1
      have k1 : ∀ r j, r < 0 ∨ 23 < r ∨ j ≠ 3 + k → d1 r j = ev_w3 d 0 (3 + k) (fun _ => 0) r j := f1
      obtain ⟨l2, d2, e2, x1, x2, x3, x4, x5⟩ := ih (k + 1) (by omega) (n + 1 + 23) (ev_lk l1 40 0 k true) d1 (c + 1 + 23) (s + 9 + 621) (by omega) (by omega) (by omega) (by simp (disch := omega) only [lkn, nln, h1, h39]) (fun i hi => by
        by_cases e : i = k
        · subst e
          exact lks
        · rw [lkn (by omega), h1 40 0 i (by omega), nln (by omega)]
          exact h40 i (by omega)) (fun i hi r c hr hir hc' => by
        rw [lkn (by omega)]
        by_cases e : i = k
        · subst e
          exact s1 r c hr hir hc'
        · rw [h1 r (3 + i) c (by omega), nln (by omega)]
          exact hL i (by omega) r c hr hir hc')
      refine ⟨l2, d2, EV_bk (k := 400) ?_, fun r j c a b e => ?_, x2, x3, x4, fun r j a b => ?_⟩
      · rw [bk_13_15, if_pos (show Int32.ofNat k < 10 from (ni_lt (b := 10) (by omega) (by omega)).mpr (by omega)), h39, cond_true]
        have hbq : Nat.beq (3 + k) (k + 3) = true := by rw [Nat.add_comm]; exact Nat.beq_refl _
        simp (disch := first | omega | decide) only [ni_c (n := k) (by omega), sq_le, cnd, Nat.ble_eq.mpr (show c + 1 ≤ 241 by omega), Nat.ble_eq.mpr (show s + 9 ≤ 6310 by omega), Nat.ble_eq.mpr (show c + 1 + 23 ≤ 241 by omega), Nat.ble_eq.mpr (show s + 9 + 621 ≤ 6310 by omega), cond_true, Bool.and_self, ev_bv, e1, ni_in (n := k) (N := 10) (by omega) (by omega), hbq, ni_1]
        exact e2
      · rw [x1 r j c a b e, lkn (by omega), h1 r j c (by omega), nln (by omega)]
      · rw [x5 r j a b, k1 r j (by omega)]
        by_cases z : r = 0
        · subst z
          rw [w3j (by omega)]
        · rw [w3n z]
  obtain ⟨l2, d2, e2, x1, x2, x3, x4, x5⟩ := loop 10 0 rfl (n + 1) (ev_lk (ev_nl lk 40 0) 39 0 0 true) (ev_w3 d 40 0 (fun _ => 0)) 1 10 (by omega) (by omega) (by omega) lks (fun i hi => absurd hi (Nat.not_lt_zero _)) (fun i hi => absurd hi (Nat.not_lt_zero _))
  refine ⟨l2, d2, EV_bk (k := 400) ?_, fun r j c a b e => ?_, x2, x3, x4, fun r j a b => ?_⟩
  · subst hn
    rw [bk_13_0]
    simp (disch := first | omega | decide) only [q40, cnd, cond_true]
    exact e2
  · rw [x1 r j c a b e, lkn (by omega), nln (by omega)]
  · rw [x5 r j a b, w3n b]
end EC54
