/-! THE PROGRAM AGAINST THE REFERENCE, 60: a state is reset -/
/-- only instance i of roles lo to hi has changed -/
def CG (lo hi i : Nat) (d d' : Nat → Nat → Nat → Int32) : Prop := ∀ r j, r < lo ∨ hi < r ∨ j ≠ i → d' r j = d r j
theorem CG_t {lo hi i : Nat} {d d' d'' : Nat → Nat → Nat → Int32} (h : CG lo hi i d d') (h' : CG lo hi i d' d'') : CG lo hi i d d'' := fun r' j x => (h' r' j x).trans (h r' j x)
theorem CG_H {lo hi r i : Nat} {d d' : Nat → Nat → Nat → Int32} (h : CH r i d d') (h1 : lo ≤ r) (h2 : r ≤ hi) : CG lo hi i d d' := fun r' j x => h r' j (by omega)
theorem CG_u {lo hi r i k : Nat} {d : Nat → Nat → Nat → Int32} {v : Int32} (h1 : lo ≤ r) (h2 : r ≤ hi) : CG lo hi i d (ev_u3 d r i k v) := CG_H CH_u h1 h2
theorem CG_i {lo hi lo' hi' i : Nat} {d d' : Nat → Nat → Nat → Int32} (h : CG lo hi i d d') (h1 : lo' ≤ lo) (h2 : hi ≤ hi') : CG lo' hi' i d d' := fun r j x => h r j (by omega)
theorem pb_0 {s : Nat → Int32} {k : Nat} (h : 8 ≤ k) (h1 : k ≠ 18) (h2 : ¬ (k = 25 ∨ k = 26 ∨ k = 34 ∨ k = 35 ∨ k = 43 ∨ k = 44 ∨ k = 52 ∨ k = 53)) : pb s k = 0 := by
  unfold pb
  rw [if_neg (by omega), if_neg h1, if_neg h2]
theorem pb_n {s : Nat → Int32} {k : Nat} (h2 : k = 25 ∨ k = 26 ∨ k = 34 ∨ k = 35 ∨ k = 43 ∨ k = 44 ∨ k = 52 ∨ k = 53) : pb s k = -1 := by
  unfold pb
  rw [if_neg (by omega), if_neg (by omega), if_pos h2]
def us_s (k : Nat) : Int32 := if k < 7 then ev_sa 2 k else 0
section EC47
variable {n : Nat} {lk : Nat → Nat → Nat → Bool} {d : Nat → Nat → Nat → Int32} {o : ev_W}
theorem ec_reset11 {i : Nat} (l0 : lk 3 i 0 = true) (l1 : lk 3 i 1 = true) (l2 : lk 3 i 2 = true) (l3 : lk 3 i 3 = true) (l4 : lk 3 i 4 = true) (l5 : lk 3 i 5 = true) (l6 : lk 3 i 6 = true) :
    ∃ d', EV (11, 0, [ev_R 3 i], [], 0, 0) (n, lk, d, o) = some (.inl none, (n, lk, d', o)) ∧ CG 4 10 i d d' ∧ ∀ b, b < 4 → d' 4 i b = 0 ∧ d' 5 i b = 0 ∧ d' 6 i b = 0 ∧ d' 7 i b = 0 ∧ d' 8 i b = 0 ∧ d' 9 i b = -1 ∧ d' 10 i b = -1 := by
  obtain ⟨d1, e1, f1, g1⟩ := ec_fill_4 (n := n) (lk := lk) (d := d) (o := o) (i := i) (x := 0)
  obtain ⟨d2, e2, f2, g2⟩ := ec_fill_5 (n := n) (lk := lk) (d := d1) (o := o) (i := i) (x := 0)
  obtain ⟨d3, e3, f3, g3⟩ := ec_fill_6 (n := n) (lk := lk) (d := d2) (o := o) (i := i) (x := 0)
  obtain ⟨d4, e4, f4, g4⟩ := ec_fill_7 (n := n) (lk := lk) (d := d3) (o := o) (i := i) (x := 0)
  obtain ⟨d5, e5, f5, g5⟩ := ec_fill_8 (n := n) (lk := lk) (d := d4) (o := o) (i := i) (x := 0)
  obtain ⟨d6, e6, f6, g6⟩ := ec_fill_9 (n := n) (lk := lk) (d := d5) (o := o) (i := i) (x := -1)
  obtain ⟨d7, e7, f7, g7⟩ := ec_fill_10 (n := n) (lk := lk) (d := d6) (o := o) (i := i) (x := -1)
  refine ⟨d7, EV_bk (k := 400) ?_, CG_t (CG_H f1 (by decide) (by decide)) (CG_t (CG_H f2 (by decide) (by decide)) (CG_t (CG_H f3 (by decide) (by decide)) (CG_t (CG_H f4 (by decide) (by decide)) (CG_t (CG_H f5 (by decide) (by decide)) (CG_t (CG_H f6 (by decide) (by decide)) (CG_H f7 (by decide) (by decide))))))), fun b hb => ⟨?_, ?_, ?_, ?_, ?_, ?_, g7 b hb⟩⟩
  · rw [bk_11_0]
    simp only [ev_bv, l0, l1, l2, l3, l4, l5, l6, cond_true, e1, e2, e3, e4, e5, e6, e7]
  · rw [f7 4 i (by omega), f6 4 i (by omega), f5 4 i (by omega), f4 4 i (by omega), f3 4 i (by omega), f2 4 i (by omega), g1 b hb]
  · rw [f7 5 i (by omega), f6 5 i (by omega), f5 5 i (by omega), f4 5 i (by omega), f3 5 i (by omega), g2 b hb]
  · rw [f7 6 i (by omega), f6 6 i (by omega), f5 6 i (by omega), f4 6 i (by omega), g3 b hb]
  · rw [f7 7 i (by omega), f6 7 i (by omega), f5 7 i (by omega), g4 b hb]
  · rw [f7 8 i (by omega), f6 8 i (by omega), g5 b hb]
  · rw [f7 9 i (by omega), g6 b hb]
theorem ec_reset53 {i : Nat} (l0 : lk 11 i 0 = true) (l1 : lk 11 i 1 = true) (l2 : lk 11 i 2 = true) (l3 : lk 11 i 3 = true) (l4 : lk 11 i 4 = true) :
    ∃ d', EV (53, 0, [ev_R 11 i], [], 0, 0) (n, lk, d, o) = some (.inl none, (n, lk, d', o)) ∧ CG 12 16 i d d' ∧ ∀ c, c < 64 → d' 12 i c = 0 ∧ d' 13 i c = 0 ∧ d' 14 i c = 0 ∧ d' 15 i c = 0 ∧ d' 16 i c = 0 := by
  obtain ⟨d1, e1, f1, g1⟩ := ec_fill_12 (n := n) (lk := lk) (d := d) (o := o) (i := i) (x := 0)
  obtain ⟨d2, e2, f2, g2⟩ := ec_fill_13 (n := n) (lk := lk) (d := d1) (o := o) (i := i) (x := 0)
  obtain ⟨d3, e3, f3, g3⟩ := ec_fill_14 (n := n) (lk := lk) (d := d2) (o := o) (i := i) (x := 0)
  obtain ⟨d4, e4, f4, g4⟩ := ec_fill_15 (n := n) (lk := lk) (d := d3) (o := o) (i := i) (x := 0)
  obtain ⟨d5, e5, f5, g5⟩ := ec_fill_16 (n := n) (lk := lk) (d := d4) (o := o) (i := i) (x := 0)
  refine ⟨d5, EV_bk (k := 400) ?_, CG_t (CG_H f1 (by decide) (by decide)) (CG_t (CG_H f2 (by decide) (by decide)) (CG_t (CG_H f3 (by decide) (by decide)) (CG_t (CG_H f4 (by decide) (by decide)) (CG_H f5 (by decide) (by decide))))), fun b hb => ⟨?_, ?_, ?_, ?_, g5 b hb⟩⟩
  · rw [bk_53_0]
    simp only [ev_bv, l0, l1, l2, l3, l4, cond_true, e1, e2, e3, e4, e5]
  · rw [f5 12 i (by omega), f4 12 i (by omega), f3 12 i (by omega), f2 12 i (by omega), g1 b hb]
  · rw [f5 13 i (by omega), f4 13 i (by omega), f3 13 i (by omega), g2 b hb]
  · rw [f5 14 i (by omega), f4 14 i (by omega), g3 b hb]
  · rw [f5 15 i (by omega), g4 b hb]
/-- the links of a state -/
def LKS (lk : Nat → Nat → Nat → Bool) (i : Nat) : Prop := (lk 0 i 4 = true ∧ lk 0 i 5 = true ∧ lk 0 i 6 = true ∧ lk 0 i 7 = true ∧ lk 0 i 8 = true) ∧ (lk 3 i 0 = true ∧ lk 3 i 1 = true ∧ lk 3 i 2 = true ∧ lk 3 i 3 = true ∧ lk 3 i 4 = true ∧ lk 3 i 5 = true ∧ lk 3 i 6 = true) ∧ (lk 11 i 0 = true ∧ lk 11 i 1 = true ∧ lk 11 i 2 = true ∧ lk 11 i 3 = true ∧ lk 11 i 4 = true)
theorem LKS_LK (hl : LK lk) {i : Nat} (hi : i < 15) : LKS lk i := ⟨⟨hl 0 i 4 rfl hi (by decide), hl 0 i 5 rfl hi (by decide), hl 0 i 6 rfl hi (by decide), hl 0 i 7 rfl hi (by decide), hl 0 i 8 rfl hi (by decide)⟩, ⟨hl 3 i 0 rfl hi (by decide), hl 3 i 1 rfl hi (by decide), hl 3 i 2 rfl hi (by decide), hl 3 i 3 rfl hi (by decide), hl 3 i 4 rfl hi (by decide), hl 3 i 5 rfl hi (by decide), hl 3 i 6 rfl hi (by decide)⟩, ⟨hl 11 i 0 rfl hi (by decide), hl 11 i 1 rfl hi (by decide), hl 11 i 2 rfl hi (by decide), hl 11 i 3 rfl hi (by decide), hl 11 i 4 rfl hi (by decide)⟩⟩
theorem ec_reset62 {i : Nat} (hs : LKS lk i) : ∃ d', EV (62, 0, [ev_R 0 i], [], 0, 0) (n, lk, d, o) = some (.inl none, (n, lk, d', o)) ∧ CG 0 23 i d d' ∧ CS d' i (pb us_s) 0 0 := by
  obtain ⟨⟨a4, a5, a6, a7, a8⟩, ⟨b0, b1, b2, b3, b4, b5, b6⟩, ⟨c0, c1, c2, c3, c4⟩⟩ := hs
  have f0 : CG 0 23 i d (ev_u3 (ev_u3 (ev_u3 (ev_u3 d 0 i 0 0) 0 i 1 0) 0 i 2 0) 0 i 3 (-1)) := CG_t (CG_t (CG_t (CG_u (by decide) (by decide)) (CG_u (by decide) (by decide))) (CG_u (by decide) (by decide))) (CG_u (by decide) (by decide))
  have x0 : ev_u3 (ev_u3 (ev_u3 (ev_u3 d 0 i 0 0) 0 i 1 0) 0 i 2 0) 0 i 3 (-1) 0 i 0 = 0 := by rw [u3x (by decide), u3x (by decide), u3x (by decide), u3s]
  have x1 : ev_u3 (ev_u3 (ev_u3 (ev_u3 d 0 i 0 0) 0 i 1 0) 0 i 2 0) 0 i 3 (-1) 0 i 1 = 0 := by rw [u3x (by decide), u3x (by decide), u3s]
  have x2 : ev_u3 (ev_u3 (ev_u3 (ev_u3 d 0 i 0 0) 0 i 1 0) 0 i 2 0) 0 i 3 (-1) 0 i 2 = 0 := by rw [u3x (by decide), u3s]
  have x3 : ev_u3 (ev_u3 (ev_u3 (ev_u3 d 0 i 0 0) 0 i 1 0) 0 i 2 0) 0 i 3 (-1) 0 i 3 = -1 := u3s
  generalize hd0 : ev_u3 (ev_u3 (ev_u3 (ev_u3 d 0 i 0 0) 0 i 1 0) 0 i 2 0) 0 i 3 (-1) = d0 at *
  have e1 : EV (126, 0, [ev_R 102 2, ev_R 1 i], [], 0, 0) (n, lk, d0, o) = some (.inl none, (n, lk, ev_w3 d0 1 i (va_cpy (ev_sa 2) (d0 1 i) 0 0 7), o)) := by
    refine EV_bk (k := 400) ?_
    rw [bk_126_0_102_1]
    rfl
  have f1 : CG 1 1 i d0 (ev_w3 d0 1 i (va_cpy (ev_sa 2) (d0 1 i) 0 0 7)) := fun r j h => by
    by_cases e : r = 1
    · subst e
      exact w3j (by omega)
    · rw [w3n e]
  have y1 : ∀ k, k < 7 → ev_w3 d0 1 i (va_cpy (ev_sa 2) (d0 1 i) 0 0 7) 1 i k = ev_sa 2 k := fun k hk => by
    rw [w3s]
    unfold va_cpy
    rw [if_pos (by omega), show 0 + (k - 0) = k by omega]
  generalize ev_w3 d0 1 i (va_cpy (ev_sa 2) (d0 1 i) 0 0 7) = d1 at *
  obtain ⟨d2, e2, f2, y2⟩ := ec_fill_2 (n := n) (lk := lk) (d := d1) (o := o) (i := i) (x := 0)
  obtain ⟨d3, e3, f3, y3⟩ := ec_reset11 (n := n) (d := d2) (o := o) (i := i) b0 b1 b2 b3 b4 b5 b6
  obtain ⟨d4, e4, f4, y4⟩ := ec_reset53 (n := n) (d := d3) (o := o) (i := i) c0 c1 c2 c3 c4
  have e5 : EV (44, 0, [ev_R 17 i], [], 0, 0) (n, lk, d4, o) = some (.inl none, (n, lk, ev_u3 (ev_u3 d4 17 i 0 0) 17 i 1 0, o)) := by
    refine EV_bk (k := 400) ?_
    rw [bk_44_0]
  have f5 : CG 17 17 i d4 (ev_u3 (ev_u3 d4 17 i 0 0) 17 i 1 0) := CG_t (CG_u (by decide) (by decide)) (CG_u (by decide) (by decide))
  have z0 : ev_u3 (ev_u3 d4 17 i 0 0) 17 i 1 0 17 i 0 = 0 := by rw [u3x (by decide), u3s]
  have z1 : ev_u3 (ev_u3 d4 17 i 0 0) 17 i 1 0 17 i 1 = 0 := u3s
  generalize ev_u3 (ev_u3 d4 17 i 0 0) 17 i 1 0 = d5 at *
  have f2' : CG 2 2 i d1 d2 := CG_H f2 (by decide) (by decide)
  refine ⟨d5, EV_bk (k := 400) ?_, CG_t f0 (CG_t (CG_i f1 (by decide) (by decide)) (CG_t (CG_i f2' (by decide) (by decide)) (CG_t (CG_i f3 (by decide) (by decide)) (CG_t (CG_i f4 (by decide) (by decide)) (CG_i f5 (by decide) (by decide)))))), ?_⟩
  · rw [bk_62_0, hd0]
    simp only [ev_bv, a4, a5, a6, a7, a8, cond_true, e1, e2, e3, e4, e5]
  · have g00 : d5 0 i = d0 0 i := by rw [f5 0 i (by omega), f4 0 i (by omega), f3 0 i (by omega), f2' 0 i (by omega), f1 0 i (by omega)]
    have g1 : d5 1 i = d1 1 i := by rw [f5 1 i (by omega), f4 1 i (by omega), f3 1 i (by omega), f2' 1 i (by omega)]
    have g2 : d5 2 i = d2 2 i := by rw [f5 2 i (by omega), f4 2 i (by omega), f3 2 i (by omega)]
    have g3 : ∀ r, 3 < r → r < 11 → d5 r i = d3 r i := fun r h1 h2 => by rw [f5 r i (by omega), f4 r i (by omega)]
    have g4 : ∀ r, 11 < r → r < 17 → d5 r i = d4 r i := fun r h1 h2 => by rw [f5 r i (by omega)]
    refine ⟨fun k hk => ?_, ?_, ?_, ?_, ?_, ?_, ?_, fun k hk => ?_, fun b hb => ?_, fun c hc => ?_, fun q hq => absurd hq (Nat.not_lt_zero _), ⟨?_, ?_, rfl, by decide⟩, fun q hq => absurd hq (Nat.not_lt_zero _), fun q hq => absurd hq (Nat.not_lt_zero _)⟩
    · rw [g1, y1 k hk]
      unfold pb us_s
      rw [if_pos (by omega), if_pos hk]
    · rw [g00, x1]; rfl
    · rw [g00, x0]; rfl
    · rw [g00, x2]; rfl
    · rw [g00, x3]; rfl
    · rw [z0]; rfl
    · rw [z1]; rfl
    · rw [g2, y2 k hk, pb_0 (by omega) (by omega) (by omega)]
    · obtain ⟨v0, v1, v2, v3, v4, v5, v6⟩ := y3 b hb
      rw [g3 4 (by decide) (by decide), g3 5 (by decide) (by decide), g3 6 (by decide) (by decide), g3 7 (by decide) (by decide), g3 8 (by decide) (by decide), g3 9 (by decide) (by decide), g3 10 (by decide) (by decide), v0, v1, v2, v3, v4, v5, v6]
      rw [pb_0 (k := 19 + 9 * b + 0) (by omega) (by omega) (by omega), pb_0 (k := 19 + 9 * b + 1) (by omega) (by omega) (by omega), pb_0 (k := 19 + 9 * b + 3) (by omega) (by omega) (by omega), pb_0 (k := 19 + 9 * b + 4) (by omega) (by omega) (by omega), pb_0 (k := 19 + 9 * b + 5) (by omega) (by omega) (by omega), pb_n (k := 19 + 9 * b + 6) (by omega), pb_n (k := 19 + 9 * b + 7) (by omega)]
      exact ⟨rfl, rfl, rfl, rfl, rfl, rfl, rfl⟩
    · obtain ⟨v0, v1, v2, v3, v4⟩ := y4 c hc
      rw [g4 12 (by decide) (by decide), g4 13 (by decide) (by decide), g4 14 (by decide) (by decide), g4 15 (by decide) (by decide), g4 16 (by decide) (by decide), v0, v1, v2, v3, v4]
      rw [pb_0 (k := 55 + 5 * c + 0) (by omega) (by omega) (by omega), pb_0 (k := 55 + 5 * c + 1) (by omega) (by omega) (by omega), pb_0 (k := 55 + 5 * c + 2) (by omega) (by omega) (by omega), pb_0 (k := 55 + 5 * c + 3) (by omega) (by omega) (by omega), pb_0 (k := 55 + 5 * c + 4) (by omega) (by omega) (by omega)]
      exact ⟨rfl, rfl, rfl, rfl, rfl⟩
    · rfl
    · rfl
theorem ec_reset25 {i : Nat} (l5 : lk 24 i 5 = true) (l6 : lk 24 i 6 = true) : ∃ d', EV (25, 0, [ev_R 24 i], [], 0, 0) (n, lk, d, o) = some (.inl none, (n, lk, d', o)) ∧ CG 24 26 i d d' ∧ (d' 24 i 0 = 1 ∧ d' 24 i 1 = 1 ∧ d' 24 i 2 = 4 ∧ d' 24 i 3 = 1 ∧ d' 24 i 4 = 0) ∧ ∀ c, c < 64 → d' 25 i c = -1 ∧ d' 26 i c = -1 := by
  have f0 : CG 24 26 i d (ev_u3 (ev_u3 (ev_u3 (ev_u3 (ev_u3 d 24 i 0 1) 24 i 1 1) 24 i 2 4) 24 i 3 1) 24 i 4 0) := CG_t (CG_t (CG_t (CG_t (CG_u (by decide) (by decide)) (CG_u (by decide) (by decide))) (CG_u (by decide) (by decide))) (CG_u (by decide) (by decide))) (CG_u (by decide) (by decide))
  have x0 : (ev_u3 (ev_u3 (ev_u3 (ev_u3 (ev_u3 d 24 i 0 1) 24 i 1 1) 24 i 2 4) 24 i 3 1) 24 i 4 0) 24 i 0 = 1 := by rw [u3x (by decide), u3x (by decide), u3x (by decide), u3x (by decide), u3s]
  have x1 : (ev_u3 (ev_u3 (ev_u3 (ev_u3 (ev_u3 d 24 i 0 1) 24 i 1 1) 24 i 2 4) 24 i 3 1) 24 i 4 0) 24 i 1 = 1 := by rw [u3x (by decide), u3x (by decide), u3x (by decide), u3s]
  have x2 : (ev_u3 (ev_u3 (ev_u3 (ev_u3 (ev_u3 d 24 i 0 1) 24 i 1 1) 24 i 2 4) 24 i 3 1) 24 i 4 0) 24 i 2 = 4 := by rw [u3x (by decide), u3x (by decide), u3s]
  have x3 : (ev_u3 (ev_u3 (ev_u3 (ev_u3 (ev_u3 d 24 i 0 1) 24 i 1 1) 24 i 2 4) 24 i 3 1) 24 i 4 0) 24 i 3 = 1 := by rw [u3x (by decide), u3s]
  have x4 : (ev_u3 (ev_u3 (ev_u3 (ev_u3 (ev_u3 d 24 i 0 1) 24 i 1 1) 24 i 2 4) 24 i 3 1) 24 i 4 0) 24 i 4 = 0 := u3s
  generalize hd0 : ev_u3 (ev_u3 (ev_u3 (ev_u3 (ev_u3 d 24 i 0 1) 24 i 1 1) 24 i 2 4) 24 i 3 1) 24 i 4 0 = d0 at *
  obtain ⟨d1, e1, f1, y1⟩ := ec_fill_25 (n := n) (lk := lk) (d := d0) (o := o) (i := i) (x := -1)
  obtain ⟨d2, e2, f2, y2⟩ := ec_fill_26 (n := n) (lk := lk) (d := d1) (o := o) (i := i) (x := -1)
  have g24 : d2 24 i = d0 24 i := by rw [f2 24 i (by omega), f1 24 i (by omega)]
  refine ⟨d2, EV_bk (k := 400) ?_, CG_t f0 (CG_t (CG_H f1 (by decide) (by decide)) (CG_H f2 (by decide) (by decide))), ?_, fun c hc => ⟨?_, y2 c hc⟩⟩
  · rw [bk_25_0, hd0]
    simp only [ev_bv, l5, l6, cond_true, e1, e2]
  · rw [g24, x0, x1, x2, x3, x4]
    exact ⟨rfl, rfl, rfl, rfl, rfl⟩
  · rw [f2 25 i (by omega), y1 c hc]
end EC47
