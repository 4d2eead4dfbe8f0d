/-! THE PROGRAM AGAINST THE REFERENCE, 61: a text is begun -/
section EC48
variable {n : Nat} {lk : Nat → Nat → Nat → Bool} {d : Nat → Nat → Nat → Int32} {o : ev_W}
theorem em_usual {μ : ev_M} {k : Nat} (hk : k < 7) : EV (133, 0, [ev_I (Int32.ofNat k)], [], 0, 0) μ = some (.inl (some (ev_I (ev_sa 2 k))), μ) := by
  obtain ⟨n, lk, d, o⟩ := μ
  refine EV_bk (k := 400) ?_
  rw [bk_133_0]
  match k, hk with
  | 0, _ => simp (decide := true) only [↓reduceIte]; rfl
  | 1, _ => simp (decide := true) only [↓reduceIte]; rfl
  | 2, _ => simp (decide := true) only [↓reduceIte]; rfl
  | 3, _ => simp (decide := true) only [↓reduceIte]; rfl
  | 4, _ => simp (decide := true) only [↓reduceIte]; rfl
  | 5, _ => simp (decide := true) only [↓reduceIte]; rfl
  | 6, _ => simp (decide := true) only [↓reduceIte]; rfl
theorem em_clears (h15 : lk 44 0 15 = true) (h16 : lk 44 0 16 = true) : ∃ d', EV (150, 0, [ev_R 44 0], [], 0, 0) (n, lk, d, o) = some (.inl none, (n, lk, d', o)) ∧ ((∀ r, r ≠ 44 → r ≠ 48 → r ≠ 49 → d' r = d r) ∧ ∀ k, k < 13 ∨ 14 < k → d' 44 0 k = d 44 0 k) ∧ (∀ k, k < 132 → d' 48 0 k = 0) ∧ (∀ k, k < 8 → d' 49 0 k = us_s k) ∧ d' 44 0 13 = 0 ∧ d' 44 0 14 = 0 := by
  have l2 : ∀ j k, k + j = 7 → ∀ d : Nat → Nat → Nat → Int32, (∀ c, c < 132 → d 48 0 c = 0) → (∀ c, c < k → d 49 0 c = us_s c) → ∃ d', EV (150, 24, [ev_R 44 0, ev_I (Int32.ofNat k)], [], 0, 0) (n, lk, d, o) = some (.inl none, (n, lk, d', o)) ∧ ((∀ r, r ≠ 44 → r ≠ 48 → r ≠ 49 → d' r = d r) ∧ ∀ k, k < 13 ∨ 14 < k → d' 44 0 k = d 44 0 k) ∧ (∀ k, k < 132 → d' 48 0 k = 0) ∧ (∀ k, k < 8 → d' 49 0 k = us_s k) ∧ d' 44 0 13 = 0 ∧ d' 44 0 14 = 0 := by
    intro j
    induction j with
    | zero =>
      intro k hk d h48 h49
      have hk' : k = 7 := hk
      refine ⟨ev_u3 (ev_u3 (ev_u3 d 49 0 7 0) 44 0 13 0) 44 0 14 0, EV_bk (k := 400) ?_, ⟨fun r x y z => by rw [u3n x, u3n x, u3n z], fun c hc => by rw [u3x (by omega), u3x (by omega), u3n (by decide)]⟩, fun c hc => by rw [u3n (by decide), u3n (by decide), u3n (by decide), h48 c hc], fun c hc => ?_, by rw [u3x (by decide), u3s], u3s⟩
      · rw [bk_150_24, if_neg (show ¬ Int32.ofNat k < 7 by rw [hk']; decide), h16, cond_true]
      · rw [u3n (by decide), u3n (by decide)]
        by_cases e : c = 7
        · subst e
          rw [u3s]
          rfl
        · rw [u3x e, h49 c (by omega)]
    | succ j ih =>
      intro k hk d h48 h49
      have hs : us_s k = ev_sa 2 k := if_pos (by omega)
      obtain ⟨d', e, ⟨f1, f2⟩, g⟩ := ih (k + 1) (by omega) (ev_u3 d 49 0 k (us_s k)) (fun c hc => by rw [u3n (by decide), h48 c hc]) (fun c hc => by
        by_cases x : c = k
        · subst x
          rw [u3s]
        · rw [u3x x, h49 c (by omega)])
      refine ⟨d', EV_bk (k := 400) ?_, ⟨fun r x y z => by rw [f1 r x y z, u3n z], fun c hc => by rw [f2 c hc, u3n (by decide)]⟩, g⟩
      rw [bk_150_24, if_pos (show Int32.ofNat k < 7 from (ni_lt (b := 7) (by omega) (by omega)).mpr (by omega)), h16, cond_true, em_usual (by omega)]
      simp only [ev_bi, ni_in (n := k) (N := 8) (by omega) (by omega), ni_c (n := k) (by omega), cond_true, ni_1]
      rw [← hs]
      exact e
  have l1 : ∀ j k, k + j = 132 → ∀ d : Nat → Nat → Nat → Int32, (∀ c, c < k → d 48 0 c = 0) → ∃ d', EV (150, 2, [ev_R 44 0, ev_I (Int32.ofNat k)], [], 0, 0) (n, lk, d, o) = some (.inl none, (n, lk, d', o)) ∧ ((∀ r, r ≠ 44 → r ≠ 48 → r ≠ 49 → d' r = d r) ∧ ∀ k, k < 13 ∨ 14 < k → d' 44 0 k = d 44 0 k) ∧ (∀ k, k < 132 → d' 48 0 k = 0) ∧ (∀ k, k < 8 → d' 49 0 k = us_s k) ∧ d' 44 0 13 = 0 ∧ d' 44 0 14 = 0 := by
    intro j
    induction j with
    | zero =>
      intro k hk d h48
      have hk' : k = 132 := hk
      subst hk'
      obtain ⟨d', e, f⟩ := l2 7 0 rfl d h48 (fun c hc => absurd hc (Nat.not_lt_zero _))
      refine ⟨d', EV_bk (k := 400) ?_, f⟩
      rw [bk_150_2, if_neg (by decide)]
      exact e
    | succ j ih =>
      intro k hk d h48
      obtain ⟨d', e, ⟨f1, f2⟩, g⟩ := ih (k + 1) (by omega) (ev_u3 d 48 0 k 0) (fun c hc => by
        by_cases x : c = k
        · subst x
          rw [u3s]
        · rw [u3x x, h48 c (by omega)])
      refine ⟨d', EV_bk (k := 400) ?_, ⟨fun r x y z => by rw [f1 r x y z, u3n y], fun c hc => by rw [f2 c hc, u3n (by decide)]⟩, g⟩
      rw [bk_150_2, if_pos (show Int32.ofNat k < 132 from (ni_lt (b := 132) (by omega) (by omega)).mpr (by omega)), h15, cond_true]
      simp only [ni_in (n := k) (N := 132) (by omega) (by omega), ni_c (n := k) (by omega), cond_true, ni_1]
      exact e
  obtain ⟨d', e, f⟩ := l1 132 0 rfl d (fun c hc => absurd hc (Nat.not_lt_zero _))
  refine ⟨d', EV_bk (k := 400) ?_, f⟩
  rw [bk_150_0]
  exact e
/-- what the program's parser leaves -/
def KX (d d' : Nat → Nat → Nat → Int32) : Prop := (∀ r i, 27 ≤ r ∨ i ≠ 0 → r ≠ 28 → r ≠ 29 → r ≠ 31 → d' r i = d r i) ∧ (∀ k, k < 2 → d' 29 0 k = d 29 0 k)
theorem KX_KS {d d' d'' : Nat → Nat → Nat → Int32} (h : KX d d') (h' : KS d' d'') : KX d d'' := ⟨fun r i x y z u => (h'.1 r i x y z u).trans (h.1 r i x y z u), fun k x => (h'.2 k (by omega)).trans (h.2 k x)⟩
/-- what is so when a text is begun -/
def QB (d : Nat → Nat → Nat → Int32) : Prop := (d 24 0 0 = 1 ∧ d 24 0 1 = 1 ∧ d 24 0 2 = 4 ∧ d 24 0 3 = 1 ∧ d 24 0 4 = 0) ∧ (∀ c, c < 64 → d 25 0 c = -1 ∧ d 26 0 c = -1) ∧ CS d 0 (pb us_s) 0 0 ∧ ∀ k, k < 7 → d 31 0 k = 0
theorem ec_begin (hl : LK lk) {b : Nat → Int32} {len l : Nat} (h1 : d 29 0 1 = Int32.ofNat l) (hll : len ≤ l) (h6 : l ≤ 600) (hb : ∀ x, x < len → d 30 0 x = b x) :
    ∃ d', EV (32, 0, [ev_R 28 0, ev_I (Int32.ofNat len)], [], 0, 0) (n, lk, d, o) = some (.inl none, (n, lk, d', o)) ∧ KX d d' ∧ CT d' b len 0 ∧ QB d' ∧ d' 28 0 5 = 1 := by
  obtain ⟨d1, e1, f1, g1, g1'⟩ := ec_reset25 (n := n) (lk := lk) (d := d) (o := o) (i := 0) (hl 24 0 5 rfl (by decide) (by decide)) (hl 24 0 6 rfl (by decide) (by decide))
  obtain ⟨d2, e2, f2, g2⟩ := ec_reset62 (n := n) (d := d1) (o := o) (i := 0) (LKS_LK hl (by decide))
  have loop : ∀ j k, k + j = 7 → ∀ d : Nat → Nat → Nat → Int32, d 29 0 1 = Int32.ofNat l → (∀ c, c < k → d 31 0 c = 0) → ∃ d', EV (32, 16, [ev_R 28 0, ev_I (Int32.ofNat len), ev_I (Int32.ofNat k)], [], 0, 0) (n, lk, d, o) = some (.inl none, (n, lk, d', o)) ∧ (∀ r, r ≠ 28 → r ≠ 29 → r ≠ 31 → d' r = d r) ∧ (∀ k, k < 2 → d' 29 0 k = d 29 0 k) ∧ (∀ c, c < 7 → d' 31 0 c = 0) ∧ d' 28 0 5 = 1 ∧ d' 29 0 2 = Int32.ofNat len ∧ d' 29 0 5 = 0 := by
    intro j
    induction j with
    | zero =>
      intro k hk d hd hc
      have hk' : k = 7 := hk
      subst hk'
      refine ⟨ev_u3 (ev_u3 (ev_u3 (ev_u3 (ev_u3 (ev_u3 d 28 0 5 1) 28 0 6 0) 29 0 2 (Int32.ofNat len)) 29 0 3 0) 29 0 4 0) 29 0 5 0, EV_bk (k := 400) ?_, fun r x y z => by rw [u3n y, u3n y, u3n y, u3n y, u3n x, u3n x], fun k hk => by rw [u3x (by omega), u3x (by omega), u3x (by omega), u3x (by omega), u3n (by decide), u3n (by decide)], fun c hc' => by rw [u3n (by decide), u3n (by decide), u3n (by decide), u3n (by decide), u3n (by decide), u3n (by decide), hc c hc'], by rw [u3n (by decide), u3n (by decide), u3n (by decide), u3n (by decide), u3x (by decide), u3s], by rw [u3x (by decide), u3x (by decide), u3x (by decide), u3s], u3s⟩
      have e19 : EV (19, 0, [ev_R 29 0, ev_I (Int32.ofNat len)], [], 0, 0) (n, lk, ev_u3 (ev_u3 d 28 0 5 1) 28 0 6 0, o) = some (.inl none, (n, lk, ev_u3 (ev_u3 (ev_u3 (ev_u3 (ev_u3 (ev_u3 d 28 0 5 1) 28 0 6 0) 29 0 2 (Int32.ofNat len)) 29 0 3 0) 29 0 4 0) 29 0 5 0, o)) := by
        refine EV_bk (k := 400) ?_
        rw [bk_19_0, if_neg (show ¬ ev_u3 (ev_u3 d 28 0 5 1) 28 0 6 0 29 0 1 < Int32.ofNat len by
          rw [u3n (by decide), u3n (by decide), hd]
          intro v
          have := (ni_lt (by omega) (by omega)).mp v
          omega)]
      rw [bk_32_16, if_neg (by decide), hl 28 0 0 rfl (by decide) (by decide), cond_true, e19]
      rfl
    | succ j ih =>
      intro k hk d hd hc
      obtain ⟨d', e, f, g⟩ := ih (k + 1) (by omega) (ev_u3 d 31 0 k 0) (by rw [u3n (by decide), hd]) (fun c hc' => by
        by_cases x : c = k
        · subst x
          rw [u3s]
        · rw [u3x x, hc c (by omega)])
      refine ⟨d', EV_bk (k := 400) ?_, fun r x y z => by rw [f r x y z, u3n z], fun k' hk' => by rw [g.1 k' hk', u3n (by decide)], g.2⟩
      rw [bk_32_16, if_pos (show Int32.ofNat k < 7 from (ni_lt (b := 7) (by omega) (by omega)).mpr (by omega)), hl 28 0 3 rfl (by decide) (by decide), cond_true]
      simp only [ni_in (n := k) (N := 7) (by omega) (by omega), ni_c (n := k) (by omega), cond_true, ni_1]
      exact e
  have d29 : d2 29 0 = d 29 0 := by rw [f2 29 0 (by omega), f1 29 0 (by omega)]
  obtain ⟨d3, e3, f3, g3, h31, h5, h2, h5'⟩ := loop 7 0 rfl d2 (by rw [d29, h1]) (fun c hc => absurd hc (Nat.not_lt_zero _))
  refine ⟨d3, EV_bk (k := 400) ?_, ⟨fun r i x y z u => ?_, fun k hk => by rw [g3 k hk, d29]⟩, ⟨Nat.zero_le _, by omega, h2, fun x hx => ?_, h5'⟩, ⟨?_, fun c hc => ?_, ?_, h31⟩, h5⟩
  · rw [bk_32_0]
    simp only [ev_bv, hl 28 0 1 rfl (by decide) (by decide), hl 28 0 2 rfl (by decide) (by decide), cond_true, e1, e2]
    exact e3
  · rw [f3 r y z u, f2 r i (by omega), f1 r i (by omega)]
  · rw [f3 30 (by decide) (by decide) (by decide), f2 30 0 (by omega), f1 30 0 (by omega), hb x hx]
  · rw [f3 24 (by decide) (by decide) (by decide), f2 24 0 (by omega)]
    exact g1
  · rw [f3 25 (by decide) (by decide) (by decide), f3 26 (by decide) (by decide) (by decide), f2 25 0 (by omega), f2 26 0 (by omega)]
    exact g1' c hc
  · exact CS_d g2 (fun r hr => by rw [f3 r (by omega) (by omega) (by omega)])
end EC48
