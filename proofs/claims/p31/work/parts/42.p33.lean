/-! THE LAW'S METHODS, 33: plays -/
variable {σ : Int32}
section PLS
variable {lk : Nat → Nat → Nat → Bool} {P : ev_O × ev_M → Prop} {i j g b0 B R : Nat}
/-- fourteen changes -/
theorem pl_loop (hl : LK lk) (hij : i + 45 ≤ j) : ∀ f m wn tt (d e : Nat → Nat → Nat → Int32) (q : Nat → Nat → Nat → Nat) C τ c s0, m + f = 14 → LQ q i → LQ q j → j + 45 ≤ wn → AS σ d e i j B R C τ → τ ≤ 20 * m → c ≤ 484 + m * 1250 → s0 ≤ 306095 + m * 7560 →
    (∀ d' wn' tt' e' q', d' 44 0 4 = 0 → d' 104 0 0 = σ → GI d' → P (.inl (some (ev_I 1)), (384, lk, d', wn', tt', e', q'))) →
    ER (278, 50, [ev_R 27 0, ev_R 208 g, ev_R 213 b0, ev_R 200 i, ev_R 200 j, ev_I (Int32.ofNat m)], [], c, s0) (384, lk, d, wn, tt, e, q) P
  | 0, m, wn, tt, d, e, q, C, τ, c, s0, hm, hq, hq', hw, h, hτ, hc, hs, kk => by
    have : m = 14 := by omega
    subst this
    refine ER_bk ?_
    rw [bk_278_50, if_neg (by decide)]
    refine ER_bk ?_
    rw [bk_278_93]
    obtain ⟨⟨⟨-, -, h4, h104⟩, T, hG, -⟩, -⟩ := h
    exact ⟨_, rfl, kk d wn tt e q h4 h104 hG.1⟩
  | f + 1, m, wn, tt, d, e, q, C, τ, c, s0, hm, hq, hq', hw, h, hτ, hc, hs, kk => by
    obtain ⟨r1, x1, d1, e1, C1, τ1, -, ht1, h1, rfl⟩ := ch_changes (wn := wn) (tt := tt) (g := g) (P := fun r => ∃ d' e' C' τ', C' ≤ C + 1 ∧ τ' ≤ τ + 20 ∧ AS σ d' e' i j B R C' τ' ∧ r = (.inl (some (ev_I 1)), (384, lk, d', wn, tt, e', q))) hl hq hij h (by omega) (fun d' e' C' τ' z1 z2 z3 => ⟨d', e', C', τ', z1, z2, z3, rfl⟩)
    obtain ⟨r2, x2, w2, t2, d2, e2, q2, f2, rfl⟩ := st_state (wn := wn) (tt := tt) (P := fun r => ∃ wn' tt' d' e' q', KF wn d1 e1 q wn' d' e' q' ∧ r = (.inl (some (ev_I 1)), (384, lk, d', wn', tt', e', q'))) hl hq h1.1 (by omega) (fun wn' tt' d' e' q' z => ⟨wn', tt', d', e', q', z, rfl⟩)
    have hq2 := KF.LQ f2 (by omega) hq
    have hq2' := KF.LQ f2 (by omega) hq'
    have h2 : AS σ d2 e2 i j B R C1 τ1 := by
      obtain ⟨hR, t, w, u, hV⟩ := h1
      exact ⟨KF.LR f2 (by omega) hR, t, w, u, LV_r hV fun r x p _ z1 z2 => f2.2.2.1 r x p (by omega)⟩
    obtain ⟨r3, x3, d3, e3, h3, rfl⟩ := as_asks (wn := w2) (tt := t2) (g := g) (P := fun r => ∃ d' e', AS σ d' e' i j B R C1 τ1 ∧ r = (.inl (some (ev_I 1)), (384, lk, d', w2, t2, e', q2))) hl hq2 hq2' hij h2 (fun d' e' z => ⟨d', e', z, rfl⟩)
    have hw2 : wn ≤ w2 := f2.1
    refine ER_bk ?_
    rw [bk_278_50, if_pos (show Int32.ofNat m < (14 : Int32) from (ni_lt (b := 14) (by omega) (by omega)).mpr (by omega)), ble2 (show c + 10 ≤ 18000 by omega) (show s0 + 60 ≤ 420000 by omega), cond_true, x1, bi_ok, if_neg (by decide), ble2 (show c + 10 + 1200 ≤ 18000 by omega) (show s0 + 60 + 7200 ≤ 420000 by omega), cond_true, x2, bi_ok, if_neg (by decide), ble2 (show c + 10 + 1200 + 40 ≤ 18000 by omega) (show s0 + 60 + 7200 + 300 ≤ 420000 by omega), cond_true, x3, bi_ok, if_neg (by decide)]
    refine ER_bk ?_
    rw [bk_278_87, ni_1]
    exact pl_loop hl hij f (m + 1) w2 t2 d3 e3 q2 C1 τ1 (c + 10 + 1200 + 40) (s0 + 60 + 7200 + 300) (by omega) hq2 hq2' (by omega) h3 (by omega) (by omega) (by omega) kk
/-- a play -/
theorem pl_plays (hl : LK lk) {w : Nat} {tt : Nat → Nat} {d e : Nat → Nat → Nat → Int32} {q : Nat → Nat → Nat → Nat} (hg : g < w) (hG : GI d) (h4 : d 44 0 4 = 0) (h104 : d 104 0 0 = σ)
    (kk : ∀ d' wn' tt' e' q', d' 44 0 4 = 0 → d' 104 0 0 = σ → GI d' → P (.inl (some (ev_I 1)), (384, lk, d', wn', tt', e', q'))) :
    ER (278, 0, [ev_R 27 0, ev_R 208 g], [], 0, 0) (384, lk, d, w, tt, e, q) P := by
  obtain ⟨w1, t1, e1, q1, v1, f1, s1⟩ := sb_new (lk := lk) (d := d) (t := ev_n1 tt w 213) (q := ev_z3 q 213 w) (e := ev_w3 e 213 w (fun _ => 0)) (i := w) (by rw [w3_eq ⟨rfl, rfl⟩])
  have hw1 : w + 1 ≤ w1 := f1.1
  obtain ⟨r2, v2, w2, t2, e2, q2, B, R, L, t, s, a, m, C, hL, hC, hM, rfl⟩ := mw_memory (lk := lk) (d := d) (tt := t1) (g := g) (P := fun r => ∃ w' tt' e' q' B R L t s a m C, L.length ≤ 320 ∧ C ≤ 9 ∧ ME w' e' q' w1 w B R L t s a m C ∧ r = (.inl (some (ev_R 200 w1)), (384, lk, d, w', tt', e', q'))) s1 (by omega) (by omega) (fun w' tt' e' q' B R L t s a m C z1 z2 z3 => ⟨w', tt', e', q', B, R, L, t, s, a, m, C, z1, z2, z3, rfl⟩)
  obtain ⟨⟨hq, hj, hw2, hV, hh, cap, hs, hcap⟩, hP, h7, ⟨t0, t1', b1, b4, r1, r6⟩, s4⟩ := hM
  -- the second Memory
  have e260 := mm_new (lk := lk) (d := d) (tt := ev_n1 t2 w2 200) (e := ev_w3 e2 200 w2 (fun _ => 0)) (q := ev_z3 q2 200 w2) (i := w2)
  have fe : ∀ r x p, x < w2 → mn_e (ev_w3 e2 200 w2 (fun _ => 0)) w2 r x p = e2 r x p := fun r x p hx => by rw [mn_e_n (by omega), w3_ne (by omega)]
  have fq : ∀ r x p, x < w2 → mn_q (ev_z3 q2 200 w2) w2 r x p = q2 r x p := fun r x p hx => by rw [mn_q_n (by omega), z3_ne (by omega)]
  have V0 := mm_LV (e := ev_w3 e2 200 w2 (fun _ => 0)) (i := w2) (fun p => by rw [w3_eq ⟨rfl, rfl⟩])
  have Q0 : LQ (mn_q (ev_z3 q2 200 w2) w2) w2 := mm_LQ
  generalize mn_e (ev_w3 e2 200 w2 (fun _ => 0)) w2 = E at e260 fe V0
  generalize mn_q (ev_z3 q2 200 w2) w2 = Q at e260 fq Q0
  generalize mn_t (ev_n1 t2 w2 200) w2 = T0 at e260
  have hs' : SB w (w2 + 45) E Q hh cap L := by
    obtain ⟨s1, s2, s3, s4, s5, s6, s7, s8, s9⟩ := hs
    exact ⟨by rw [fq _ _ _ s3, s1], by omega, by omega, by rw [fe _ _ _ s3, s4], by rw [fe _ _ _ s3, s5], by rw [fe _ _ _ s2, s6], s7, s8, fun k hk => by rw [fe _ _ _ s2, s9 k hk]⟩
  obtain ⟨w3, t3, e3, q3, v3, hw3, fe3, fq3, X3⟩ := sb_made (lk := lk) (d := d) (t := T0) hs' (by omega)
  obtain ⟨r4, v4, d4, w4, t4, e4, q4, m4, hw4, fe4, fq4, hG4, l4, hl4, h600, h47, d104, rfl⟩ := fd_feeds (P := fun r => ∃ d' w' t' e' q' m', w3 ≤ w' ∧ (∀ r x p, x < w3 → e' r x p = e3 r x p) ∧ (∀ r x p, x < w3 → q' r x p = q3 r x p) ∧ GI d' ∧ d' 44 0 4 = Int32.ofNat (20 * m') ∧ L.length ≤ 20 * m' ∧ 20 * m' ≤ 600 ∧ (∀ k, k < 20 * m' → d' 47 0 k = Int32.ofNat (bN L k)) ∧ d' 104 = d 104 ∧ r = (.inl (some (ev_I 1)), (384, lk, d', w', t', e', q'))) hl (by omega) h7 (t := t3) X3 hG h4 (fun d' w' t' e' q' m' z1 z2 z3 z4 z5 z6 z7 z8 z9 => ⟨d', w', t', e', q', m', z1, z2, z3, z4, z5, z6, z7, z8, z9, rfl⟩)
  have n4 : e4 213 w 3 = Int32.ofNat L.length := by rw [fe4 _ _ _ (by omega), fe3 _ _ _ (by omega), hs'.2.2.2.2.1]
  have v5 := sb_len (lk := lk) (d := d4) (w := w4) (t := t4) (q := q4) (i := w) n4
  have hx : TX (d4 47 0) 0 L := fun k hk => by
    rw [Nat.zero_add, h47 k (by omega)]
    unfold bN
    rw [if_pos hk]
    exact (as7_get h7 hk).1.symm
  obtain ⟨d5, d6, cr, hG6, l6, f104, f45, f46, va, vb⟩ := ol_parse hl hG4 l4 hl4 h600 (hP lk (d4 47 0) L.length hl hx (Nat.le_refl _)) (by omega) 384 (w4, t4, e4, q4)
  have hR : LR σ d6 e4 w1 B R C 0 := lr_start hG6 l6 (by rw [f104, d104, h104]) f45 f46 (LV_r hV fun r x p _ z1 z2 => by rw [fe4 _ _ _ (by omega), fe3 _ _ _ (by omega), fe _ _ _ (by omega)]) t0 t1' b4 r6 hC s4
  have hA : AS σ d6 e4 w1 w2 B R C 0 := ⟨hR, _, _, _, LV_r V0 fun r x p _ z1 z2 => by rw [fe4 _ _ _ (by omega), fe3 _ _ _ (by omega)]⟩
  have fin := pl_loop (b0 := w) (g := g) hl hw2 14 0 w4 t4 d6 e4 q4 C 0 484 306095 (by omega) (LQ_q hq fun r x p z1 z2 => by rw [fq4 _ _ _ (by omega), fq3 _ _ _ (by omega), fq _ _ _ (by omega)]) (LQ_q Q0 fun r x p z1 z2 => by rw [fq4 _ _ _ (by omega), fq3 _ _ _ (by omega)]) (by omega) hA (by omega) (by omega) (by omega) kk
  refine ER_bk ?_
  rw [bk_278_0]
  show ∃ r, ev_bv _ _ _ = _ ∧ _
  rw [v1, bv_ok, v2, br_ok]
  show ∃ r, ev_bv _ _ _ = _ ∧ _
  rw [e260, bv_ok, v3, br_ok]
  show ∃ r, ev_bi _ _ _ = _ ∧ _
  rw [v4, bi_ok, if_neg (by decide), v5, bi_ok, va, bi_ok, vb, gh_CR cr, if_pos rfl]
  exact fin
end PLS
