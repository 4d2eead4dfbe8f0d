/-! THE PROGRAM AGAINST THE REFERENCE, 65: a text is read -/
theorem KX_r (d : Nat → Nat → Nat → Int32) : KX d d := ⟨fun _ _ _ _ _ _ => rfl, fun _ _ => rfl⟩
theorem pr_read {lk : Nat → Nat → Nat → Bool} (hl : LK lk) {d : Nat → Nat → Nat → Int32} {b : Nat → Int32} {L len : Nat} (h1 : d 29 0 1 = Int32.ofNat L) (hll : len ≤ L) (h6 : L ≤ 600) (hb : ∀ x, x < len → d 30 0 x = b x) (hg : ∀ x, x < len → ms_rg (b x) (-128) 127) (n : Nat) (o : ev_W) (m : Nat) (u : ev_W) (dd : Nat → Nat → Nat → Int32) (hL : dd 44 0 4 = Int32.ofNat L) (hb' : ∀ x, x < len → dd 47 0 x = b x) :
    (∃ dc' dr' B R C, EV (31, 0, [ev_R 28 0, ev_I (Int32.ofNat len)], [], 0, 0) (n, lk, d, o) = some (.inl (some (ev_I 0)), (n, lk, dc', o)) ∧ (∀ dz, EV (152, 0, [ev_R 44 0], [], 0, 0) (m, lk, dr', u) = some (.inl none, (m, lk, dz, u)) → EV (151, 0, [ev_R 44 0, ev_I (Int32.ofNat len)], [], 0, 0) (m, lk, dd, u) = some (.inl (some (ev_I 0)), (m, lk, dz, u))) ∧ KX d dc' ∧ KU dd dr' ∧ QS dc' dr' B R C ∧ dr' 44 0 11 = -1) ∨
    ∃ dc' dr', EV (31, 0, [ev_R 28 0, ev_I (Int32.ofNat len)], [], 0, 0) (n, lk, d, o) = some (.inl (some (ev_I (dc' 28 0 5))), (n, lk, dc', o)) ∧ EV (151, 0, [ev_R 44 0, ev_I (Int32.ofNat len)], [], 0, 0) (m, lk, dd, u) = some (.inl (some (ev_I (dr' 44 0 10))), (m, lk, dr', u)) ∧ KX d dc' ∧ KU dd dr' ∧ PE dc' dr' := by
  obtain ⟨d0, e0, f0, c0, q0, -⟩ := ec_begin (n := n) (o := o) hl (b := b) h1 hll h6 hb
  rcases pr_head hl hL hll h6 (fun x hx => ⟨hb' x hx, hg x hx⟩) c0 q0 n o m u with ⟨d1, r1, q, B, R, e1, x1, f1, y1, g1, i1, k1⟩ | ⟨d1, r1, e1, x1, f1, y1, pe⟩
  · rcases pr_loop hl n o m u (x := Int32.ofNat len) len q 0 0 d1 r1 (by omega) g1 i1 k1 (Nat.zero_le _) with ⟨d2, r2, C, e2, x2, f2, y2, k2, z2⟩ | ⟨d2, r2, e2, x2, f2, y2, pe⟩
    · refine .inl ⟨d2, r2, B, R, C, EV_bk (k := 400) ?_, fun dz hz => x1 _ (x2 dz hz), KX_KS (KX_KS f0 f1) f2, KU_KT y1 y2, k2, z2⟩
      rw [bk_31_0, e0]
      simp only [ev_bv, e1, ev_bi]
      exact e2
    · refine .inr ⟨d2, r2, EV_bk (k := 400) ?_, x1 _ x2, KX_KS (KX_KS f0 f1) f2, KU_KT y1 y2, pe⟩
      rw [bk_31_0, e0]
      simp only [ev_bv, e1, ev_bi]
      exact e2
  · refine .inr ⟨d1, r1, EV_bk (k := 400) ?_, x1 _ (EV_bk (k := 400) ?_), KX_KS f0 f1, y1, pe⟩
    · rw [bk_31_0, e0]
      simp only [ev_bv, e1, ev_bi]
      refine EV_bk (k := 400) ?_
      rw [bk_31_12, if_pos rfl]
    · rw [bk_151_136, if_pos rfl, if_pos rfl]
theorem CL_t {d : Nat → Nat → Nat → Int32} {l : Nat} {t t' : Nat → Int32} (h : CL d l t) (e : ∀ k, k < 132 → t' k = t k) : CL d l t' := by
  obtain ⟨h0, h1, h2, h3, h4⟩ := h
  refine ⟨by rw [h0, e 0 (by decide)], by rw [h1, e 1 (by decide)], by rw [h2, e 2 (by decide)], by rw [h3, e 3 (by decide)], fun c hc => ?_⟩
  rw [e (4 + 2 * c) (by omega), e (4 + 2 * c + 1) (by omega)]
  exact h4 c hc
theorem TC_t {t t' : Nat → Int32} {B R : Nat} (h : TC t B R) (e : ∀ k, k < 132 → t' k = t k) : TC t' B R := by
  obtain ⟨⟨h0, h1, h2⟩, h3, h4, h5⟩ := h
  refine ⟨⟨by rw [e 0 (by decide), h0], by rw [e 1 (by decide), h1], h2⟩, by rw [e 2 (by decide)]; exact h3, by rw [e 3 (by decide)]; exact h4, fun c hc => ?_⟩
  rw [e (4 + 2 * c) (by omega)]
  exact h5 c hc
theorem pw_m {s a : Nat → Int32} {k : Nat} (h1 : 8 ≤ k) (h2 : k < 375) (h9 : k ≠ 9) : ∀ C, pw s a C k = pb s k
  | 0 => rfl
  | C + 1 => (ms_addq_n h9 (.inl (by omega))).trans (pw_m h1 h2 h9 C)
theorem pw_q {s a : Nat → Int32} {q : Nat} : ∀ C, q < C → pw s a C (375 + 6 * q + 0) = a (3 * q) ∧ pw s a C (375 + 6 * q + 1) = a (3 * q + 1) ∧ pw s a C (375 + 6 * q + 3) = 0
  | 0, h => absurd h (Nat.not_lt_zero _)
  | C + 1, h => by
    by_cases e : q = C
    · subst e
      obtain ⟨z0, z1, -, z3, -⟩ := ms_addq_q (w := pw s a q) (C := q) (b := a (3 * q)) (r := a (3 * q + 1)) (tm := a (3 * q + 2))
      exact ⟨z0, z1, z3⟩
    · obtain ⟨z0, z1, z3⟩ := pw_q (s := s) (a := a) (q := q) C (by omega)
      exact ⟨(ms_addq_n (by omega) (.inl (by omega))).trans z0, (ms_addq_n (by omega) (.inl (by omega))).trans z1, (ms_addq_n (by omega) (.inl (by omega))).trans z3⟩
theorem pw_SI {s a : Nat → Int32} {B R C : Nat} (hC : C ≤ 20) (h : (∃ S, S ≤ 4 ∧ s 0 = Int32.ofNat S) ∧ ms_rg (s 1) 1 8 ∧ ms_rg (s 2) 0 8 ∧ (s 7 = 0 ∨ s 7 = 1) ∧ ms_rg (s 3) 1 99) (ha : ∀ q, q < C → (∃ b, b < B ∧ a (3 * q) = Int32.ofNat b) ∧ ∃ r, r < R ∧ a (3 * q + 1) = Int32.ofNat r) : SI (pw s a C) B R C C 0 := by
  have m0 : ∀ k, 8 ≤ k → k < 375 → k ≠ 9 → k ≠ 18 → ¬ (k = 25 ∨ k = 26 ∨ k = 34 ∨ k = 35 ∨ k = 43 ∨ k = 44 ∨ k = 52 ∨ k = 53) → pw s a C k = 0 := fun k h1 h2 h3 h4 h5 => (pw_m h1 h2 h3 C).trans (pb_0 h1 h4 h5)
  have z : ms_rg 0 0 0 := by unfold ms_rg; decide
  have mm : ∀ b n, n ≤ C → ms_many (pw s a C) b 2 n = 0 := by
    intro b n
    induction n with
    | zero => exact fun _ => rfl
    | succ n ih =>
      intro hn
      unfold ms_many
      rw [if_neg (fun v => by
        rw [(pw_q C (q := n) (by omega)).2.2] at v
        exact absurd v.1 (by decide))]
      exact ih (by omega)
  obtain ⟨⟨S, hS, e0⟩, h1, h2, h7, h3⟩ := h
  refine ⟨⟨Nat.le_refl _, by omega, fun q h1 h2 => by omega⟩, fun q hq => ?_, ⟨m0 8 (by decide) (by decide) (by decide) (by decide) (by decide), by decide⟩, ⟨⟨S, hS, by rw [pw_lo (by decide), e0]⟩, by rw [pw_lo (by decide)]; exact h1, by rw [pw_lo (by decide)]; exact h2, by rw [pw_lo (by decide)]; exact h7, by rw [pw_lo (by decide)]; exact h3⟩, fun b hb => ?_, fun c hc => ?_, fun b hb => ?_, ?_⟩
  · obtain ⟨z0, z1, -⟩ := pw_q (s := s) (a := a) C hq
    rw [z0, z1]
    exact ha q hq
  · rw [m0 (19 + 9 * b + 0) (by omega) (by omega) (by omega) (by omega) (by omega)]
    unfold ms_rg
    decide
  · rw [m0 (55 + 5 * c + 0) (by omega) (by omega) (by omega) (by omega) (by omega)]
    exact z
  · rw [m0 (19 + 9 * b + 2) (by omega) (by omega) (by omega) (by omega) (by omega), mm b C (Nat.le_refl _)]
    rfl
  · rw [m0 16 (by omega) (by omega) (by omega) (by omega) (by omega)]
    exact z
section EC50
variable {n : Nat} {lk : Nat → Nat → Nat → Bool} {d : Nat → Nat → Nat → Int32} {o : ev_W}
theorem ec_cpLayout (hl : LK lk) : ∃ d', EV (26, 0, [ev_R 24 1, ev_R 24 0], [], 0, 0) (n, lk, d, o) = some (.inl none, (n, lk, d', o)) ∧ CG 24 26 1 d d' ∧ (∀ k, k < 5 → d' 24 1 k = d 24 0 k) ∧ ∀ c, c < 64 → d' 25 1 c = d 25 0 c ∧ d' 26 1 c = d 26 0 c := by
  have f0 : CG 24 26 1 d (ev_u3 (ev_u3 (ev_u3 (ev_u3 (ev_u3 d 24 1 0 (d 24 0 0)) 24 1 1 (d 24 0 1)) 24 1 2 (d 24 0 2)) 24 1 3 (d 24 0 3)) 24 1 4 (d 24 0 4)) := CG_t (CG_t (CG_t (CG_t (CG_u (by decide) (by decide)) (CG_u (by decide) (by decide))) (CG_u (by decide) (by decide))) (CG_u (by decide) (by decide))) (CG_u (by decide) (by decide))
  have g0 : ∀ k, k < 5 → (ev_u3 (ev_u3 (ev_u3 (ev_u3 (ev_u3 d 24 1 0 (d 24 0 0)) 24 1 1 (d 24 0 1)) 24 1 2 (d 24 0 2)) 24 1 3 (d 24 0 3)) 24 1 4 (d 24 0 4)) 24 1 k = d 24 0 k := fun k hk => by
    match k, hk with
    | 0, _ => rw [u3x (by decide), u3x (by decide), u3x (by decide), u3x (by decide), u3s]
    | 1, _ => rw [u3x (by decide), u3x (by decide), u3x (by decide), u3s]
    | 2, _ => rw [u3x (by decide), u3x (by decide), u3s]
    | 3, _ => rw [u3x (by decide), u3s]
    | 4, _ => rw [u3s]
  have f1 : ∀ (d0 : Nat → Nat → Nat → Int32) r, CG r r 1 d0 (ev_w3 d0 r 1 (va_cpy (d0 r 0) (d0 r 1) 0 0 64)) := fun d0 r r' j h => by
    by_cases e : r' = r
    · subst e
      exact w3j (by omega)
    · rw [w3n e]
  have g1 : ∀ (d0 : Nat → Nat → Nat → Int32) r c, c < 64 → ev_w3 d0 r 1 (va_cpy (d0 r 0) (d0 r 1) 0 0 64) r 1 c = d0 r 0 c := fun d0 r c hc => by
    rw [w3s]
    unfold va_cpy
    rw [if_pos (by omega), show 0 + (c - 0) = c by omega]
  have e1 : ∀ d0 : Nat → Nat → Nat → Int32, EV (126, 0, [ev_R 25 0, ev_R 25 1], [], 0, 0) (n, lk, d0, o) = some (.inl none, (n, lk, ev_w3 d0 25 1 (va_cpy (d0 25 0) (d0 25 1) 0 0 64), o)) := fun d0 => by
    refine EV_bk (k := 400) ?_
    rw [bk_126_0_25_25]
    rfl
  have e2 : ∀ d0 : Nat → Nat → Nat → Int32, EV (126, 0, [ev_R 26 0, ev_R 26 1], [], 0, 0) (n, lk, d0, o) = some (.inl none, (n, lk, ev_w3 d0 26 1 (va_cpy (d0 26 0) (d0 26 1) 0 0 64), o)) := fun d0 => by
    refine EV_bk (k := 400) ?_
    rw [bk_126_0_26_26]
    rfl
  have m5 : lk 24 0 5 = true := hl 24 0 5 rfl (by decide) (by decide)
  have m6 : lk 24 0 6 = true := hl 24 0 6 rfl (by decide) (by decide)
  have n5 : lk 24 1 5 = true := hl 24 1 5 rfl (by decide) (by decide)
  have n6 : lk 24 1 6 = true := hl 24 1 6 rfl (by decide) (by decide)
  have hb := bk_26_0 (r := EV) (n := n) (lk := lk) (d := d) (o := o) 1 0
  simp (disch := decide) only [u3y, m5, m6, n5, n6, cond_true, e1, ev_bv, e2] at hb
  generalize (ev_u3 (ev_u3 (ev_u3 (ev_u3 (ev_u3 d 24 1 0 (d 24 0 0)) 24 1 1 (d 24 0 1)) 24 1 2 (d 24 0 2)) 24 1 3 (d 24 0 3)) 24 1 4 (d 24 0 4)) = d0 at *
  refine ⟨_, EV_bk (k := 400) hb, CG_t f0 (CG_t (CG_i (f1 d0 25) (by decide) (by decide)) (CG_i (f1 _ 26) (by decide) (by decide))), fun k hk => ?_, fun c hc => ⟨?_, ?_⟩⟩
  · rw [w3n (by decide), w3n (by decide), g0 k hk]
  · rw [w3n (by decide), g1 d0 25 c hc, f0 25 0 (by omega)]
  · rw [g1 _ 26 c hc, w3n (by decide), f0 26 0 (by omega)]
theorem ec_clear58 (hl : LK lk) : EV (58, 0, [ev_R 41 0], [], 0, 0) (n, lk, d, o) = some (.inl none, (n, lk, ev_u3 (ev_u3 d 43 0 0 0) 43 0 1 0, o)) := by
  refine EV_bk (k := 400) ?_
  rw [bk_58_0]
  refine EV_bk (k := 400) ?_
  rw [bk_58_2, if_pos (by decide), hl 41 0 1 rfl (by decide) (by decide), cond_true]
  refine EV_bk (k := 400) ?_
  rw [bk_58_2, if_pos (by decide), hl 41 0 1 rfl (by decide) (by decide), cond_true]
  refine EV_bk (k := 400) ?_
  rw [bk_58_2, if_neg (by decide)]
  rfl
theorem ec_clear14 : EV (14, 0, [ev_R 39 0], [], 0, 0) (n, lk, d, o) = some (.inl none, (n, lk, ev_u3 d 39 0 2 0, o)) := by
  refine EV_bk (k := 400) ?_
  rw [bk_14_0]
theorem op_parse (hl : LK lk) (h : GI d) {x : Int32} : OPH (88, 0, [ev_R 27 0, ev_I x], [], 0, 0) (151, 0, [ev_R 44 0, ev_I x], [], 0, 0) kf_A lk d := by
  obtain ⟨B, R, T, g1, g2, g3, ⟨C, τ, hτ, g4⟩, ⟨l, hl6, hl1, hl2, hl3⟩, g6, ⟨he, hc, hc1, hc2, hc3, hc4, hc5, hc6⟩, g8⟩ := id h
  have L271 : lk 27 0 1 = true := hl 27 0 1 rfl (by decide) (by decide)
  by_cases z : 0 ≤ x ∧ x ≤ Int32.ofNat l
  · obtain ⟨len, hlen, ex⟩ := ni_of2 l (by omega) z.1 z.2
    subst ex
    have hll : len ≤ l := by omega
    have hx0 : ¬ Int32.ofNat len < 0 := Int32.not_lt.mpr z.1
    have hxl : Int32.ofNat len ≤ d 29 0 1 := by rw [hl1]; exact z.2
    intro n o hn
    have rd := fun dd h1 h2 => pr_read hl (b := d 47 0) hl1 hll hl6 (fun y hy => (hl3 y (by omega)).1) (fun y hy => (hl3 y (by omega)).2) n o n o dd h1 h2
    left
    rcases rd d hl2 (fun _ _ => rfl) with ⟨dc, dr0, B1, R1, C1, ec, -, kx, -, qs0, -⟩ | ⟨dc, dr0, ec, -, kx, -, pe⟩
    · have h01 : dc 0 0 1 = 0 ∨ dc 0 0 1 = 1 := by
        rw [qs0.2.2.2.1.2.1, pw_lo (by decide)]
        exact qs0.2.2.2.2.2.2.1.2.2.2.1
      obtain ⟨e1, x1, f1, y24, yc⟩ := ec_cpLayout (n := n) (o := o) (d := ev_u3 (ev_u3 dc 29 0 1 0) 27 0 8 (-1)) hl
      have e1o : ∀ r i, r < 24 ∨ 26 < r ∨ i ≠ 1 → r ≠ 27 → r ≠ 29 → e1 r i = dc r i := fun r i h1 h2 h3 => by rw [f1 r i h1, u3n h2, u3n h3]
      obtain ⟨e2, x2, cps⟩ := ec_cpState (n := n) (o := o) (d := e1) hl (i := 1) (j := 0) (by decide) (by decide) (by rw [e1o 0 0 (by omega) (by decide) (by decide)]; exact h01)
      have e2o : ∀ r i, 23 < r ∨ i ≠ 1 → e2 r i = e1 r i := fun r i h1 => cps.1 r i (by omega)
      have ea : EV (88, 0, [ev_R 27 0, ev_I (Int32.ofNat len)], [], 0, 0) (n, lk, d, o) = some (.inl (some (ev_I 0)), (n, lk, ev_u3 (ev_u3 (ev_u3 e2 39 0 2 0) 43 0 0 0) 43 0 1 0, o)) := by
        refine EV_bk (k := 400) ?_
        rw [bk_88_0, if_neg hx0, L271, cond_true, if_pos hxl, hl 27 0 0 rfl (by decide) (by decide), cond_true, ec]
        simp only [ev_bi, hl 27 0 1 rfl (by decide) (by decide), hl 27 0 0 rfl (by decide) (by decide), hl 27 0 3 rfl (by decide) (by decide), hl 28 0 1 rfl (by decide) (by decide), hl 27 0 4 rfl (by decide) (by decide), hl 28 0 2 rfl (by decide) (by decide), hl 27 0 6 rfl (by decide) (by decide), hl 27 0 7 rfl (by decide) (by decide), cond_true, ↓reduceIte, x1, ev_bv, x2, ec_clear14, ec_clear58 hl]
      have k4 : ∀ r, r ≠ 39 → r ≠ 43 → ev_u3 (ev_u3 (ev_u3 e2 39 0 2 0) 43 0 0 0) 43 0 1 0 r = e2 r := fun r h1 h2 => by rw [u3n h2, u3n h2, u3n h1]
      have k39 : ev_u3 (ev_u3 (ev_u3 e2 39 0 2 0) 43 0 0 0) 43 0 1 0 39 0 2 = 0 := by rw [u3n (by decide), u3n (by decide), u3s]
      have k39' : ev_u3 (ev_u3 (ev_u3 e2 39 0 2 0) 43 0 0 0) 43 0 1 0 39 0 1 = e2 39 0 1 := by rw [u3n (by decide), u3n (by decide), u3x (by decide)]
      have k43 : ∀ s, s < 2 → ev_u3 (ev_u3 (ev_u3 e2 39 0 2 0) 43 0 0 0) 43 0 1 0 43 0 s = 0 := fun s hs => by
        match s, hs with
        | 0, _ => rw [u3x (by decide), u3s]
        | 1, _ => rw [u3s]
      generalize hd1 : ev_u3 (ev_u3 (ev_u3 e2 39 0 2 0) 43 0 0 0) 43 0 1 0 = e4 at *
      have kk : ∀ r i, 26 < r ∨ (i ≠ 0 ∧ i ≠ 1) → r ≠ 27 → r ≠ 28 → r ≠ 29 → r ≠ 31 → r ≠ 39 → r ≠ 43 → e4 r i = d r i := fun r i h1 h2 h3 h4 h5 h6 h7 => by rw [k4 r h6 h7, e2o r i (by omega), e1o r i (by omega) h2 h4, kx.1 r i (by omega) h3 h4 h5]
      rcases pr_read hl (b := d 47 0) hl1 hll hl6 (fun y hy => (hl3 y (by omega)).1) (fun y hy => (hl3 y (by omega)).2) n o n o e4 (by rw [kk 44 0 (by omega) (by decide) (by decide) (by decide) (by decide) (by decide) (by decide)]; exact hl2) (fun y _ => by rw [kk 47 0 (by omega) (by decide) (by decide) (by decide) (by decide) (by decide) (by decide)]) with ⟨dc', dr, B2, R2, C2, ec', er, -, ku, qs, r11⟩ | ⟨dc', dr, ec', -, -, -, pe⟩
      · rw [ec] at ec'
        have ed : dc = dc' := by
          have := congrArg (fun t => match t with | some (_, (_, _, d, _)) => d | _ => dc) ec'
          exact this
        subst ed
        obtain ⟨q1, q2, ⟨q3, q3', hC20⟩, q6, q7, q8, q9, q10⟩ := qs
        obtain ⟨dz, ez, kb, b25, b45, b46, b60, b61⟩ := em_begins (n := n) (o := o) (d := dr) hl q3' hC20
        have ev := er dz ez
        have dz1 : ∀ r, r ≠ 44 → r ≠ 45 → r ≠ 46 → r ≠ 60 → r ≠ 48 → r ≠ 49 → r ≠ 50 → dz r = e4 r := fun r h1 h2 h3 h4 h5 h6 h7 => by rw [kb.1 r h1 h2 h3 h4, ku.1 r h1 h5 h6 h7]
        have dzr : ∀ r, r < 39 → dz r = e2 r := fun r h1 => by rw [dz1 r (by omega) (by omega) (by omega) (by omega) (by omega) (by omega) (by omega), k4 r (by omega) (by omega)]
        have t45 : TC (dz 45 0) B2 R2 := TC_t q2 b45
        have cse : CS e1 0 (pw (dr 49 0) (dr 50 0) C2) C2 0 := CS_d q6 (fun r hr => e1o r 0 (by omega) (by omega) (by omega))
        refine ⟨0, e4, dz, ⟨?_, ?_⟩, ⟨?_, ?_⟩, ?_, ?_, ea, ev⟩
        · exact funext fun j => kk 103 j (by omega) (by decide) (by decide) (by decide) (by decide) (by decide) (by decide)
        · exact funext fun j => kk 104 j (by omega) (by decide) (by decide) (by decide) (by decide) (by decide) (by decide)
        · rw [dz1 103 (by decide) (by decide) (by decide) (by decide) (by decide) (by decide) (by decide)]
          exact funext fun j => kk 103 j (by omega) (by decide) (by decide) (by decide) (by decide) (by decide) (by decide)
        · rw [dz1 104 (by decide) (by decide) (by decide) (by decide) (by decide) (by decide) (by decide)]
          exact funext fun j => kk 104 j (by omega) (by decide) (by decide) (by decide) (by decide) (by decide) (by decide)
        · refine ⟨B2, R2, C2, t45, ?_, ⟨?_, hC20⟩, ⟨C2, 0, by decide, ⟨0, ?_⟩, SI_w (pw_SI hC20 q9 q10) b46⟩, ⟨0, by decide, ?_, ?_, fun k hk => absurd hk (Nat.not_lt_zero _)⟩, ?_, ⟨he, 0, hc1, by decide, ?_, ?_, ?_, fun k hk => absurd hk (Nat.not_lt_zero _)⟩, fun s hs => ?_⟩
          · refine CL_t (t := dr 48 0) ?_ b45
            obtain ⟨z0, z1, z2, z3, z4⟩ := q1
            have y : ∀ k, k < 5 → dz 24 1 k = dc 24 0 k := fun k hk => by rw [dzr 24 (by decide), e2o 24 1 (by omega), y24 k hk, u3n (by decide), u3n (by decide)]
            refine ⟨by rw [y 0 (by decide), z0], by rw [y 1 (by decide), z1], by rw [y 2 (by decide), z2], by rw [y 3 (by decide), z3], fun c hc => ?_⟩
            have w5 : dz 25 1 c = dc 25 0 c := by rw [dzr 25 (by decide), e2o 25 1 (by omega), (yc c hc).1, u3n (by decide), u3n (by decide)]
            have w6 : dz 26 1 c = dc 26 0 c := by rw [dzr 26 (by decide), e2o 26 1 (by omega), (yc c hc).2, u3n (by decide), u3n (by decide)]
            rw [w5, w6]
            exact z4 c hc
          · rw [dzr 24 (by decide), e2o 24 1 (by omega), y24 4 (by decide), u3n (by decide), u3n (by decide), q3]
          · exact CS_w (CS_d (CS_cp cps cse) (fun r hr => by rw [dzr r (by omega)])) b46
          · rw [dzr 29 (by decide), e2o 29 0 (by omega), f1 29 0 (by omega), u3n (by decide), u3s]
            rfl
          · rw [kb.2 4 (by decide), ku.2.2.2]
            rfl
          · rw [dzr 27 (by decide), e2o 27 0 (by omega), f1 27 0 (by omega), u3s, kb.2 11 (by decide), r11]
          · rw [dz1 39 (by decide) (by decide) (by decide) (by decide) (by decide) (by decide) (by decide), k39', e2o 39 0 (by omega), e1o 39 0 (by omega) (by decide) (by decide), kx.1 39 0 (by omega) (by decide) (by decide) (by decide), hc3]
          · rw [dz1 39 (by decide) (by decide) (by decide) (by decide) (by decide) (by decide) (by decide), k39]
            rfl
          · rw [b25]
            rfl
          · have e60 : dz 60 0 s = 0 := by
              match s, hs with
              | 0, _ => exact b60
              | 1, _ => exact b61
            rw [dz1 43 (by decide) (by decide) (by decide) (by decide) (by decide) (by decide) (by decide), k43 s hs, e60]
            exact ⟨rfl, .inl rfl⟩
        · rw [kb.2 0 (by decide), ku.2.2.1]
      · rw [ec] at ec'
        have : 0 = dc' 28 0 5 := by
          have := congrArg (fun t => match t with | some (.inl (some (.inl (.inl v))), _) => v | _ => 0) ec'
          exact this
        rw [pe.2.1] at this
        exact absurd this.symm pe.1
    · -- an error
      obtain ⟨p1, p2, p3⟩ := pe
      have kk : ∀ r i, 27 ≤ r ∨ i ≠ 0 → r ≠ 28 → r ≠ 29 → r ≠ 31 → r ≠ 27 → ev_u3 (ev_u3 dc 29 0 1 0) 27 0 8 (dc 28 0 6) r i = d r i := fun r i h1 h2 h3 h4 h5 => by rw [u3n h5, u3n h3, kx.1 r i h1 h2 h3 h4]
      have c8 : ev_u3 (ev_u3 dc 29 0 1 0) 27 0 8 (dc 28 0 6) 27 0 8 = dc 28 0 6 := u3s
      have c1 : ev_u3 (ev_u3 dc 29 0 1 0) 27 0 8 (dc 28 0 6) 29 0 1 = 0 := by rw [u3n (by decide), u3s]
      have ea : EV (88, 0, [ev_R 27 0, ev_I (Int32.ofNat len)], [], 0, 0) (n, lk, d, o) = some (.inl (some (ev_I (dc 28 0 5))), (n, lk, ev_u3 (ev_u3 dc 29 0 1 0) 27 0 8 (dc 28 0 6), o)) := by
        have hne : ¬ dc 28 0 5 = 0 := by rw [p2]; exact p1
        refine EV_bk (k := 400) ?_
        rw [bk_88_0, if_neg hx0, L271, cond_true, if_pos hxl, hl 27 0 0 rfl (by decide) (by decide), cond_true, ec]
        simp only [ev_bi, hl 27 0 1 rfl (by decide) (by decide), hl 27 0 0 rfl (by decide) (by decide), cond_true, hne, ↓reduceIte]
      generalize hd1 : ev_u3 (ev_u3 dc 29 0 1 0) 27 0 8 (dc 28 0 6) = d1 at *
      rcases pr_read hl (b := d 47 0) hl1 hll hl6 (fun y hy => (hl3 y (by omega)).1) (fun y hy => (hl3 y (by omega)).2) n o n o d1 (by rw [kk 44 0 (by omega) (by decide) (by decide) (by decide) (by decide)]; exact hl2) (fun y _ => by rw [kk 47 0 (by omega) (by decide) (by decide) (by decide) (by decide)]) with ⟨dc', dr, B1, R1, C1, ec', -⟩ | ⟨dc', dr, ec', er, -, ku, pe⟩
      · rw [ec] at ec'
        have : dc 28 0 5 = 0 := by
          have := congrArg (fun t => match t with | some (.inl (some (.inl (.inl v))), _) => v | _ => 0) ec'
          exact this
        rw [p2] at this
        exact absurd this p1
      · rw [ec] at ec'
        have ed : dc = dc' := by
          have := congrArg (fun t => match t with | some (_, (_, _, d, _)) => d | _ => dc) ec'
          exact this
        subst ed
        obtain ⟨p1, p2, p3⟩ := pe
        rw [← p2] at er
        have ku1 : ∀ r, r ≠ 44 → r ≠ 48 → r ≠ 49 → r ≠ 50 → dr r = d1 r := ku.1
        have dd : ∀ r i, 27 ≤ r ∨ i ≠ 0 → r ≠ 28 → r ≠ 29 → r ≠ 31 → r ≠ 27 → r ≠ 44 → r ≠ 48 → r ≠ 49 → r ≠ 50 → dr r i = d r i := fun r i h1 h2 h3 h4 h5 h6 h7 h8 h9 => by rw [ku1 r h6 h7 h8 h9, kk r i h1 h2 h3 h4 h5]
        have d45 : dr 45 0 = d 45 0 := dd 45 0 (by omega) (by decide) (by decide) (by decide) (by decide) (by decide) (by decide) (by decide) (by decide)
        have d44 : ∀ k, 14 < k → dr 44 0 k = d 44 0 k := fun k hk => by rw [ku.2.1 k hk, kk 44 0 (by omega) (by decide) (by decide) (by decide) (by decide)]
        refine ⟨dc 28 0 5, d1, dr, ⟨?_, ?_⟩, ⟨?_, ?_⟩, ?_, ku.2.2.1, ea, er⟩
        · exact funext fun j => kk 103 j (by omega) (by decide) (by decide) (by decide) (by decide)
        · exact funext fun j => kk 104 j (by omega) (by decide) (by decide) (by decide) (by decide)
        · exact funext fun j => dd 103 j (by omega) (by decide) (by decide) (by decide) (by decide) (by decide) (by decide) (by decide) (by decide)
        · exact funext fun j => dd 104 j (by omega) (by decide) (by decide) (by decide) (by decide) (by decide) (by decide) (by decide) (by decide)
        · refine ⟨B, R, T, by rw [d45]; exact g1, ?_, ?_, ⟨C, τ, hτ, ?_⟩, ⟨0, by decide, ?_, ?_, fun k hk => absurd hk (Nat.not_lt_zero _)⟩, ?_, ?_, ?_⟩
          · rw [d45]
            exact CL_d g2 (dd 24 1 (by omega) (by decide) (by decide) (by decide) (by decide) (by decide) (by decide) (by decide) (by decide)) (dd 25 1 (by omega) (by decide) (by decide) (by decide) (by decide) (by decide) (by decide) (by decide) (by decide)) (dd 26 1 (by omega) (by decide) (by decide) (by decide) (by decide) (by decide) (by decide) (by decide) (by decide))
          · rw [dd 24 1 (by omega) (by decide) (by decide) (by decide) (by decide) (by decide) (by decide) (by decide) (by decide)]
            exact g3
          · rw [dd 46 0 (by omega) (by decide) (by decide) (by decide) (by decide) (by decide) (by decide) (by decide) (by decide)]
            exact GS_d g4 (fun r hr => dd r 1 (by omega) (by omega) (by omega) (by omega) (by omega) (by omega) (by omega) (by omega) (by omega))
          · rw [ku1 29 (by decide) (by decide) (by decide) (by decide), c1]
            rfl
          · rw [ku.2.2.2]
            rfl
          · rw [ku1 27 (by decide) (by decide) (by decide) (by decide), c8, p3]
          · exact GH_d ⟨he, hc, hc1, hc2, hc3, hc4, hc5, hc6⟩ (fun r i h1 h2 h3 => dd r i (by omega) (by omega) (by omega) (by omega) (by omega) (by omega) (by omega) (by omega) (by omega)) (dd 39 0 (by omega) (by decide) (by decide) (by decide) (by decide) (by decide) (by decide) (by decide) (by decide)) (d44 25 (by decide)) (dd 58 0 (by omega) (by decide) (by decide) (by decide) (by decide) (by decide) (by decide) (by decide) (by decide))
          · exact GN_d g8 (fun r i h1 h2 h3 => dd r i (by omega) (by omega) (by omega) (by omega) (by omega) (by omega) (by omega) (by omega) (by omega)) (dd 43 0 (by omega) (by decide) (by decide) (by decide) (by decide) (by decide) (by decide) (by decide) (by decide)) (dd 60 0 (by omega) (by decide) (by decide) (by decide) (by decide) (by decide) (by decide) (by decide) (by decide)) (dd 59 0 (by omega) (by decide) (by decide) (by decide) (by decide) (by decide) (by decide) (by decide) (by decide))
  · refine OPH_no (E := 0) (v := 0) h (GF_thrown (v := 1)) (by decide) (by decide) u3s (fun n o hn => ?_) (fun n o => ?_)
    · refine EV_bk (k := 400) ?_
      rw [bk_88_0, Nat.ble_eq.mpr hn, cond_true]
      by_cases z0 : x < 0
      · rw [if_pos z0]
      · rw [if_neg z0, L271, cond_true, if_neg (fun v => z ⟨Int32.not_lt.mp z0, by rw [← hl1]; exact v⟩)]
    · refine EV_bk (k := 400) ?_
      rw [bk_151_0, u3x (by decide), hl2, em_out z]
      simp only [ev_bi]
      rw [if_pos trivial, em_throws1 u3s (by decide), u3u]
      simp (decide := true) only [↓reduceIte]
end EC50
