/-! THE PROGRAM AGAINST THE REFERENCE, 70: the program is made -/
section EC55
variable {n : Nat} {lk : Nat → Nat → Nat → Bool} {d : Nat → Nat → Nat → Int32} {o : ev_W}
theorem cn_57 (hn : n = 334) : ∃ lk' d', EV (57, 0, [ev_R 41 0], [], 0, 0) (n, lk, d, o) = some (.inl none, (n + 50, lk', d', o)) ∧ (∀ r j k, (23 < r ∨ j < 13) → r ≠ 41 → r ≠ 42 → r ≠ 43 → lk' r j k = lk r j k) ∧ (lk' 41 0 0 = true ∧ lk' 41 0 1 = true) ∧ (∀ k, k < 2 → lk' 42 0 k = true) ∧ (∀ i, i < 2 → LSI lk' (13 + i)) ∧ (∀ r j, (23 < r ∨ j < 13) → r ≠ 42 → r ≠ 43 → d' r j = d r j) ∧ ∀ s, d' 43 0 s = 0 := by
  have q42 : ev_sq 42 0 = 333 := by decide
  have q43 : ev_sq 43 0 = 334 := by decide
  have loop : ∀ j k, k + j = 2 → ∀ (n : Nat) (lk : Nat → Nat → Nat → Bool) (d : Nat → Nat → Nat → Int32) c s, n = 336 + 24 * k → c = 2 + 24 * k → s = 4 + 630 * k → lk 41 0 0 = true → (∀ i, i < k → lk 42 0 i = true) → (∀ i, i < k → LSI lk (13 + i)) →
      ∃ lk' d', EV (57, 21, [ev_R 41 0, ev_I (Int32.ofNat k)], [], c, s) (n, lk, d, o) = some (.inl none, (384, lk', d', o)) ∧ (∀ r j k, (23 < r ∨ j < 13) → r ≠ 42 → lk' r j k = lk r j k) ∧ (∀ k, k < 2 → lk' 42 0 k = true) ∧ (∀ i, i < 2 → LSI lk' (13 + i)) ∧ (∀ r j, (23 < r ∨ j < 13) → d' r j = d r j) := by
    intro j
    induction j with
    | zero =>
      intro k hk n lk d c s hn hc hs h41 h42 hL
      have hk' : k = 2 := hk
      subst hk'
      have hn' : n = 384 := by omega
      subst hn'
      refine ⟨lk, d, EV_bk (k := 400) ?_, fun _ _ _ _ _ => rfl, h42, hL, fun _ _ _ => rfl⟩
      rw [bk_57_21, if_neg (by decide)]
    | succ j ih =>
      intro k hk n lk d c s hn hc hs h41 h42 hL
      have hx := sx_13 k (by omega)
      obtain ⟨l1, d1, e1, g1, s1, f1, -⟩ := cn_61 (n := n + 1) (lk := ev_nl lk 0 (13 + k)) (d := ev_w3 d 0 (13 + k) (fun _ => 0)) (o := o) (i := 13 + k) (by omega) (by omega)
      have h1 : ∀ r j c, r < 0 ∨ 23 < r ∨ j ≠ 13 + k → l1 r j c = ev_nl lk 0 (13 + k) r j c := g1
      have k1 : ∀ r j, r < 0 ∨ 23 < r ∨ j ≠ 13 + k → d1 r j = ev_w3 d 0 (13 + k) (fun _ => 0) r j := f1
      obtain ⟨l2, d2, e2, x1, x3, x4, x5⟩ := ih (k + 1) (by omega) (n + 1 + 23) (ev_lk l1 42 0 k true) d1 (c + 1 + 23) (s + 9 + 621) (by omega) (by omega) (by omega) (by simp (disch := omega) only [lkn, nln, h1, h41]) (fun i hi => by
        by_cases e : i = k
        · subst e
          exact lks
        · rw [lkn (by omega), h1 42 0 i (by omega), nln (by omega)]
          exact h42 i (by omega)) (fun i hi r c hr hir hc' => by
        rw [lkn (by omega)]
        by_cases e : i = k
        · subst e
          exact s1 r c hr hir hc'
        · rw [h1 r (13 + i) c (by omega), nln (by omega)]
          exact hL i (by omega) r c hr hir hc')
      refine ⟨l2, d2, EV_bk (k := 400) ?_, fun r j c a b => ?_, x3, x4, fun r j a => ?_⟩
      · rw [bk_57_21, if_pos (show Int32.ofNat k < 2 from (ni_lt (b := 2) (by omega) (by omega)).mpr (by omega)), h41, cond_true]
        have hbq : Nat.beq (13 + k) (k + 13) = true := by rw [Nat.add_comm]; exact Nat.beq_refl _
        simp (disch := first | omega | decide) only [ni_c (n := k) (by omega), sq_le, cnd, Nat.ble_eq.mpr (show c + 1 ≤ 50 by omega), Nat.ble_eq.mpr (show s + 9 ≤ 1264 by omega), Nat.ble_eq.mpr (show c + 1 + 23 ≤ 50 by omega), Nat.ble_eq.mpr (show s + 9 + 621 ≤ 1264 by omega), cond_true, Bool.and_self, ev_bv, e1, ni_in (n := k) (N := 2) (by omega) (by omega), hbq, ni_1]
        exact e2
      · rw [x1 r j c a b, lkn (by omega), h1 r j c (by omega), nln (by omega)]
      · rw [x5 r j a, k1 r j (by omega)]
        by_cases z : r = 0
        · subst z
          rw [w3j (by omega)]
        · rw [w3n z]
  obtain ⟨l2, d2, e2, x1, x3, x4, x5⟩ := loop 2 0 rfl (n + 1 + 1) (ev_lk (ev_nl (ev_lk (ev_nl lk 42 0) 41 0 0 true) 43 0) 41 0 1 true) (ev_w3 (ev_w3 d 42 0 (fun _ => 0)) 43 0 (fun _ => 0)) 2 4 (by omega) (by omega) (by omega) (by simp (disch := omega) only [lkn, nln, lks]) (fun i hi => absurd hi (Nat.not_lt_zero _)) (fun i hi => absurd hi (Nat.not_lt_zero _))
  refine ⟨l2, d2, EV_bk (k := 400) ?_, fun r j c a b e f => ?_, ⟨?_, ?_⟩, x3, x4, fun r j a b c => ?_, fun s => ?_⟩
  · subst hn
    rw [bk_57_0]
    simp (disch := first | omega | decide) only [q42, q43, cnd, cond_true]
    exact e2
  · rw [x1 r j c a e, lkn (by omega), nln (by omega), lkn (by omega), nln (by omega)]
  · rw [x1 41 0 0 (by omega) (by omega)]
    simp (disch := omega) only [lkn, nln, lks]
  · rw [x1 41 0 1 (by omega) (by omega)]
    exact lks
  · rw [x5 r j a, w3n c, w3n b]
  · rw [x5 43 0 (by omega), w3s]
/-- the program's own links -/
def LKC (lk : Nat → Nat → Nat → Bool) : Prop := (∀ i, i < 15 → LSI lk i) ∧ (lk 24 0 5 = true ∧ lk 24 0 6 = true ∧ lk 24 1 5 = true ∧ lk 24 1 6 = true) ∧ (∀ k, k < 8 → lk 27 0 k = true) ∧ (∀ k, k < 4 → lk 28 0 k = true) ∧ lk 29 0 0 = true ∧ (∀ k, k < 7 → lk 32 0 k = true) ∧ lk 39 0 0 = true ∧ (∀ k, k < 10 → lk 40 0 k = true) ∧ (lk 41 0 0 = true ∧ lk 41 0 1 = true) ∧ ∀ k, k < 2 → lk 42 0 k = true
theorem cn_86 (hn : n = 2) : ∃ lk' d', EV (86, 0, [ev_R 27 0], [], 0, 0) (n, lk, d, o) = some (.inl none, (n + 382, lk', d', o)) ∧ LKC lk' ∧ (∀ r, 43 < r → d' r = d r) ∧
    (d' 24 1 0 = 1 ∧ d' 24 1 1 = 1 ∧ d' 24 1 2 = 4 ∧ d' 24 1 3 = 1 ∧ d' 24 1 4 = 0) ∧ (∀ c, c < 64 → d' 25 1 c = -1 ∧ d' 26 1 c = -1) ∧ CS d' 1 (pb us_s) 0 0 ∧ d' 29 0 1 = 0 ∧ (d' 39 0 1 = 0 ∧ d' 39 0 2 = 0) ∧ (∀ s, d' 43 0 s = 0) ∧ d' 27 0 8 = -1 := by
  have q28 : ev_sq 28 0 = 1 := by decide
  have q32 : ev_sq 32 0 = 32 := by decide
  have q1 : ev_sx 1 = 42 := by decide
  have q2 : ev_sx 2 = 66 := by decide
  have q39 : ev_sq 39 0 = 90 := by decide
  have q41 : ev_sq 41 0 = 332 := by decide
  obtain ⟨l1, d1, e1, ⟨a0, a1, a2, a3, a4, a5, a6⟩, s0, v29, f1⟩ := cn_30 (n := n + 1) (lk := ev_nl lk 28 0) (d := ev_w3 d 28 0 (fun _ => 0)) (o := o) (by omega)
  obtain ⟨l2, d2, e2, g2, ⟨b5, b6⟩, b32, f2, y24, y25⟩ := cn_69 (n := n + 1 + 30 + 1) (lk := ev_nl (ev_lk (ev_lk l1 27 0 0 true) 27 0 1 true) 32 0) (d := ev_w3 d1 32 0 (fun _ => 0)) (o := o) (by omega)
  obtain ⟨l3, d3, e3, g3, s1, f3, c3⟩ := cn_61 (n := n + 1 + 30 + 1 + 9 + 1) (lk := ev_nl (ev_lk (ev_lk l2 27 0 2 true) 27 0 3 true) 0 1) (d := ev_w3 d2 0 1 (fun _ => 0)) (o := o) (i := 1) (by decide) (by omega)
  obtain ⟨l4, d4, e4, g4, s2, f4, -⟩ := cn_61 (n := n + 1 + 30 + 1 + 9 + 1 + 23 + 1) (lk := ev_nl (ev_lk l3 27 0 4 true) 0 2) (d := ev_w3 d3 0 2 (fun _ => 0)) (o := o) (i := 2) (by decide) (by omega)
  obtain ⟨l5, d5, e5, g5, t39, t40, s3, f5⟩ := cn_13 (n := n + 1 + 30 + 1 + 9 + 1 + 23 + 1 + 23 + 1) (lk := ev_nl (ev_lk l4 27 0 5 true) 39 0) (d := ev_w3 d4 39 0 (fun _ => 0)) (o := o) (by omega)
  obtain ⟨l6, d6, e6, g6, t41, t42, s13, f6, v43⟩ := cn_57 (n := n + 1 + 30 + 1 + 9 + 1 + 23 + 1 + 23 + 1 + 241 + 1) (lk := ev_nl (ev_lk l5 27 0 6 true) 41 0) (d := ev_w3 d5 41 0 (fun _ => 0)) (o := o) (by omega)
  have g3' : ∀ r j k, r < 0 ∨ 23 < r ∨ j ≠ 1 → l3 r j k = ev_nl (ev_lk (ev_lk l2 27 0 2 true) 27 0 3 true) 0 1 r j k := g3
  have g4' : ∀ r j k, r < 0 ∨ 23 < r ∨ j ≠ 2 → l4 r j k = ev_nl (ev_lk l3 27 0 4 true) 0 2 r j k := g4
  have f3' : ∀ r j, r < 0 ∨ 23 < r ∨ j ≠ 1 → d3 r j = ev_w3 d2 0 1 (fun _ => 0) r j := f3
  have f4' : ∀ r j, r < 0 ∨ 23 < r ∨ j ≠ 2 → d4 r j = ev_w3 d3 0 2 (fun _ => 0) r j := f4
  have k270 : ev_lk l1 27 0 0 true 27 0 0 = true := lks
  have k280 : ev_lk l1 27 0 0 true 28 0 0 = true := by rw [lkn (by omega), a0]
  have k272 : ev_lk l2 27 0 2 true 27 0 2 = true := lks
  have k320 : ev_lk l2 27 0 2 true 32 0 0 = true := by rw [lkn (by omega)]; exact b32 0 (by decide)
  refine ⟨ev_lk l6 27 0 7 true, ev_u3 d6 27 0 8 (-1), EV_bk (k := 400) ?_, ⟨fun i hi r k hr hir hk => ?_, ⟨?_, ?_, ?_, ?_⟩, fun k hk => ?_, fun k hk => ?_, ?_, fun k hk => ?_, ?_, fun k hk => ?_, ⟨?_, ?_⟩, fun k hk => ?_⟩, fun r hr => ?_, ?_, fun c hc => ?_, ?_, ?_, ⟨?_, ?_⟩, fun s => ?_, u3s⟩
  · rw [bk_86_0]
    simp (disch := first | omega | decide) only [q28, q32, sq_le, q1, q2, q39, q41, cnd, cond_true, ev_bv, e1, k270, k280, e2, k272, k320, e3, e4, e5, e6]
  · -- states
    rw [lkn (by omega)]
    by_cases z13 : 13 ≤ i
    · have := s13 (i - 13) (by omega) r k hr hir hk
      rwa [show 13 + (i - 13) = i by omega] at this
    · rw [g6 r i k (by omega) (by omega) (by omega) (by omega), nln (by omega), lkn (by omega)]
      by_cases z3 : 3 ≤ i
      · have := s3 (i - 3) (by omega) r k hr hir hk
        rwa [show 3 + (i - 3) = i by omega] at this
      · rw [g5 r i k (by omega) (by omega) (by omega), nln (by omega), lkn (by omega)]
        by_cases z2 : i = 2
        · subst z2
          exact s2 r k hr hir hk
        · rw [g4' r i k (by omega), nln (by omega), lkn (by omega)]
          by_cases z1 : i = 1
          · subst z1
            exact s1 r k hr hir hk
          · have z0 : i = 0 := by omega
            subst z0
            rw [g3' r 0 k (by omega), nln (by omega), lkn (by omega), lkn (by omega), g2 r 0 k (by omega), nln (by omega), lkn (by omega), lkn (by omega)]
            exact s0 r k hr hir hk
  · simp (disch := omega) only [lkn, nln, g6, g5, g4', g3', g2, a5]
  · simp (disch := omega) only [lkn, nln, g6, g5, g4', g3', g2, a6]
  · simp (disch := omega) only [lkn, nln, g6, g5, g4', g3', b5]
  · simp (disch := omega) only [lkn, nln, g6, g5, g4', g3', b6]
  · match k, hk with
    | 0, _ => simp (disch := omega) only [lkn, nln, lks, g6, g5, g4', g3', g2]
    | 1, _ => simp (disch := omega) only [lkn, nln, lks, g6, g5, g4', g3', g2]
    | 2, _ => simp (disch := omega) only [lkn, nln, lks, g6, g5, g4', g3']
    | 3, _ => simp (disch := omega) only [lkn, nln, lks, g6, g5, g4', g3']
    | 4, _ => simp (disch := omega) only [lkn, nln, lks, g6, g5, g4']
    | 5, _ => simp (disch := omega) only [lkn, nln, lks, g6, g5]
    | 6, _ => simp (disch := omega) only [lkn, nln, lks, g6]
    | 7, _ => exact lks
  · match k, hk with
    | 0, _ => simp (disch := omega) only [lkn, nln, lks, g6, g5, g4', g3', g2, a0]
    | 1, _ => simp (disch := omega) only [lkn, nln, lks, g6, g5, g4', g3', g2, a1]
    | 2, _ => simp (disch := omega) only [lkn, nln, lks, g6, g5, g4', g3', g2, a2]
    | 3, _ => simp (disch := omega) only [lkn, nln, lks, g6, g5, g4', g3', g2, a3]
  · simp (disch := omega) only [lkn, nln, lks, g6, g5, g4', g3', g2, a4]
  · simp (disch := omega) only [lkn, nln, lks, g6, g5, g4', g3', b32]
  · simp (disch := omega) only [lkn, nln, lks, g6, t39]
  · simp (disch := omega) only [lkn, nln, lks, g6, t40]
  · rw [lkn (by omega)]; exact t41.1
  · rw [lkn (by omega)]; exact t41.2
  · rw [lkn (by omega)]; exact t42 k hk
  · funext j
    rw [u3n (by omega), f6 r j (by omega) (by omega) (by omega), w3n (by omega), f5 r j (by omega) (by omega), w3n (by omega), f4' r j (by omega), w3n (by omega), f3' r j (by omega), w3n (by omega), f2 r j (by omega), w3n (by omega), f1 r (by omega), w3n (by omega)]
  · have e24 : ev_u3 d6 27 0 8 (-1) 24 1 = d2 24 1 := by rw [u3n (by omega), f6 24 1 (by omega) (by omega) (by omega), w3n (by omega), f5 24 1 (by omega) (by omega), w3n (by omega), f4' 24 1 (by omega), w3n (by omega), f3' 24 1 (by omega), w3n (by omega)]
    rw [e24]
    exact y24
  · have e25 : ∀ r, 24 < r → r < 27 → ev_u3 d6 27 0 8 (-1) r 1 = d2 r 1 := fun r h1 h2 => by rw [u3n (by omega), f6 r 1 (by omega) (by omega) (by omega), w3n (by omega), f5 r 1 (by omega) (by omega), w3n (by omega), f4' r 1 (by omega), w3n (by omega), f3' r 1 (by omega), w3n (by omega)]
    rw [e25 25 (by decide) (by decide), e25 26 (by decide) (by decide)]
    exact y25 c hc
  · refine CS_d c3 (fun r hr => ?_)
    rw [u3n (by omega), f6 r 1 (by omega) (by omega) (by omega), w3n (by omega), f5 r 1 (by omega) (by omega), w3n (by omega), f4' r 1 (by omega)]
    by_cases z : r = 0
    · subst z
      rw [w3j (by omega)]
    · rw [w3n z]
  · rw [u3n (by omega), f6 29 0 (by omega) (by omega) (by omega), w3n (by omega), f5 29 0 (by omega) (by omega), w3n (by omega), f4' 29 0 (by omega), w3n (by omega), f3' 29 0 (by omega), w3n (by omega), f2 29 0 (by omega), w3n (by omega), v29]
  · rw [u3n (by omega), f6 39 0 (by omega) (by omega) (by omega), w3n (by omega), f5 39 0 (by omega) (by omega), w3s]
  · rw [u3n (by omega), f6 39 0 (by omega) (by omega) (by omega), w3n (by omega), f5 39 0 (by omega) (by omega), w3s]
  · rw [u3n (by omega), v43 s]
end EC55
