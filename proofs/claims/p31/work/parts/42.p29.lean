/-! THE LAW'S METHODS, 29: the law draws a Memory, trading and requests -/
theorem pw_hi {s a : Nat → Int32} {k : Nat} : ∀ C, 375 + 6 * C ≤ k → pw s a C k = 0
  | 0, h => by
    show pb s k = 0
    unfold pb
    rw [if_neg (by omega), if_neg (by omega), if_neg (by omega)]
  | C + 1, h => (ms_addq_n (by omega) (.inr (by omega))).trans (pw_hi C (by omega))
theorem ms_add_q {w : Nat → Int32} {C : Nat} {x y z : Int32} (h3 : w (375 + 6 * C + 3) = 0) : ms_addq w C x y z = ms_add w C x y z := by
  funext k
  unfold ms_addq ms_add
  by_cases c9 : k = 9
  · subst c9
    simp (disch := omega) only [u1n, u1s]
  · by_cases c0 : k = 375 + 6 * C + 0
    · subst c0
      simp (disch := omega) only [u1n, u1s]
    · by_cases c1 : k = 375 + 6 * C + 1
      · subst c1
        simp (disch := omega) only [u1n, u1s]
      · by_cases c2 : k = 375 + 6 * C + 2
        · subst c2
          simp (disch := omega) only [u1n, u1s]
        · by_cases c3 : k = 375 + 6 * C + 3
          · subst c3
            simp (disch := omega) only [u1n, u1s]
            exact h3.symm
          · by_cases c4 : k = 375 + 6 * C + 4
            · subst c4
              simp (disch := omega) only [u1n, u1s]
            · simp (disch := omega) only [u1n]
section MWU
variable {w i j g B R : Nat} {lk : Nat → Nat → Nat → Bool} {d e : Nat → Nat → Nat → Int32} {tt : Nat → Nat} {q : Nat → Nat → Nat → Nat} {L : List Int32} {t s a : Nat → Int32} {m : Int32} {C : Nat} {P : ev_O × ev_M → Prop}
/-- a request is written -/
theorem mw_ask (h : ME w e q i j B R L t s a m C) (hC : C < 20) {x r z : Nat} (hx : x < B) (hr : r < R) (hz : z < 30) (hL : L.length ≤ 500) :
    ∃ e0 w1 t1 e1 q1 w2 t2 e2 q2 w3 t3 e3 q3 w4 t4 e4 q4 w5 t5 e5 q5 w6 t6 e6 q6 w7 t7 e7 q7 L' a', L'.length ≤ L.length + 13 ∧
      EV (262, 0, [ev_R 200 i, ev_I (Int32.ofNat x), ev_I (Int32.ofNat r), ev_I (Int32.ofNat z)], [], 0, 0) (384, lk, d, w, tt, e, q) = some (.inl (some (ev_I (Int32.ofNat C))), (384, lk, d, w, tt, e0, q)) ∧
      EV (226, 0, [ev_R 213 j, ev_R 100 45], [], 0, 0) (384, lk, d, w, tt, e0, q) = some (.inl (some (ev_R 213 j)), (384, lk, d, w1, t1, e1, q1)) ∧
      EV (236, 0, [ev_R 213 j, ev_I (Int32.ofNat z)], [], 0, 0) (384, lk, d, w1, t1, e1, q1) = some (.inl (some (ev_R 213 j)), (384, lk, d, w2, t2, e2, q2)) ∧
      EV (240, 0, [ev_R 213 j, ev_I (32 : Int32)], [], 0, 0) (384, lk, d, w2, t2, e2, q2) = some (.inl (some (ev_R 213 j)), (384, lk, d, w3, t3, e3, q3)) ∧
      EV (236, 0, [ev_R 213 j, ev_I (Int32.ofNat x)], [], 0, 0) (384, lk, d, w3, t3, e3, q3) = some (.inl (some (ev_R 213 j)), (384, lk, d, w4, t4, e4, q4)) ∧
      EV (240, 0, [ev_R 213 j, ev_I (32 : Int32)], [], 0, 0) (384, lk, d, w4, t4, e4, q4) = some (.inl (some (ev_R 213 j)), (384, lk, d, w5, t5, e5, q5)) ∧
      EV (236, 0, [ev_R 213 j, ev_I (Int32.ofNat r)], [], 0, 0) (384, lk, d, w5, t5, e5, q5) = some (.inl (some (ev_R 213 j)), (384, lk, d, w6, t6, e6, q6)) ∧
      EV (240, 0, [ev_R 213 j, ev_I (59 : Int32)], [], 0, 0) (384, lk, d, w6, t6, e6, q6) = some (.inl (some (ev_R 213 j)), (384, lk, d, w7, t7, e7, q7)) ∧
      ME w7 e7 q7 i j B R L' t s a' m (C + 1) := by
  obtain ⟨hA, hP, h7, hb, s4⟩ := h
  obtain ⟨t0, t1, b1, b4, r1, r6⟩ := id hb
  have g1 := dg_le x
  have g2 := dg_le r
  have g3 := dg_le z
  have g0 : ev_sl 45 = 4 := by decide +kernel
  obtain ⟨e0, y1, y2, y3⟩ := lm_add (n := 384) (lk := lk) (d := d) (wn := w) (tt := tt) hA.1 hA.2.2.2.1 (C := C) (pw_9 C) (by omega) (Int32.ofNat x) (Int32.ofNat r) (Int32.ofNat z)
  have A1 : MA w e0 q i j L t (pw s (ev_u1 (ev_u1 (ev_u1 a (3 * C + 2) (Int32.ofNat z)) (3 * C) (Int32.ofNat x)) (3 * C + 1) (Int32.ofNat r)) (C + 1)) := by
    refine MA_c (MA_v hA y3 y2) ?_
    show ms_addq (pw s _ C) C (ev_u1 _ _ _ (3 * C)) (ev_u1 _ _ _ (3 * C + 1)) (ev_u1 _ _ _ (3 * C + 2)) = _
    rw [pw_a (a := a) C (fun k hk => by rw [u1n (by omega), u1n (by omega), u1n (by omega)]), ms_add_q (pw_hi C (by omega))]
    simp (disch := omega) only [u1n, u1s]
  obtain ⟨w1, t1', e1, q1, v1, -, B1⟩ := ma_str (lk := lk) (d := d) (tt := tt) (k := 45) A1 (by omega)
  obtain ⟨w2, t2', e2, q2, v2, -, B2⟩ := ma_num (lk := lk) (d := d) (tt := t1') (y := z) (by omega) B1 (by simp only [List.length_append, sbl_len]; omega)
  obtain ⟨w3, t3', e3, q3, v3, -, B3⟩ := ma_chr (lk := lk) (d := d) (tt := t2') (x := 32) (.inl rfl) B2 (by simp only [List.length_append, sbl_len]; omega)
  obtain ⟨w4, t4', e4, q4, v4, -, B4⟩ := ma_num (lk := lk) (d := d) (tt := t3') (y := x) (by omega) B3 (by simp only [List.length_append, List.length_cons, List.length_nil, sbl_len]; omega)
  obtain ⟨w5, t5', e5, q5, v5, -, B5⟩ := ma_chr (lk := lk) (d := d) (tt := t4') (x := 32) (.inl rfl) B4 (by simp only [List.length_append, List.length_cons, List.length_nil, sbl_len]; omega)
  obtain ⟨w6, t6', e6, q6, v6, -, B6⟩ := ma_num (lk := lk) (d := d) (tt := t5') (y := r) (by omega) B5 (by simp only [List.length_append, List.length_cons, List.length_nil, sbl_len]; omega)
  obtain ⟨w7, t7', e7, q7, v7, -, B7⟩ := ma_chr (lk := lk) (d := d) (tt := t6') (x := 59) (.inr rfl) B6 (by simp only [List.length_append, List.length_cons, List.length_nil, sbl_len]; omega)
  refine ⟨e0, w1, t1', e1, q1, w2, t2', e2, q2, w3, t3', e3, q3, w4, t4', e4, q4, w5, t5', e5, q5, w6, t6', e6, q6, w7, t7', e7, q7, _, _, ?_, y1, v1, v2, v3, v4, v5, v6, v7, B7, PRS_ask hP hC t0 t1 b1 r1 b4 (by omega) (by omega) hx hr, as7_app (as7_app (as7_app (as7_app (as7_app (as7_app (as7_app h7 (as7_sbl (by omega))) (as7_dg (by omega))) (as7_1 (.inl rfl))) (as7_dg (by omega))) (as7_1 (.inl rfl))) (as7_dg (by omega))) (as7_1 (.inr rfl)), hb, s4⟩
  simp only [List.length_append, List.length_cons, List.length_nil, sbl_len]
  omega
/-- the requests -/
theorem mw_asks {i3 : Nat} : ∀ f w tt (e : Nat → Nat → Nat → Int32) (q : Nat → Nat → Nat → Nat) L a C c s0, C + f ≤ 9 → ME w e q i j B R L t s a m C → L.length + 13 * f ≤ 320 → c + 14 * f ≤ 310 → s0 + 30000 ≤ 1000 * c →
    (∀ w' tt' e' q' L' a' C', L'.length ≤ 320 → C' ≤ 9 → ME w' e' q' i j B R L' t s a' m C' → P (.inl (some (ev_R 200 i)), (384, lk, d, w', tt', e', q'))) →
    ER (277, 467, [ev_R 213 j, ev_R 208 g, ev_R 200 i, ev_R 212 i3, ev_I (Int32.ofNat f)], [], c, s0) (384, lk, d, w, tt, e, q) P
  | 0, w, tt, e, q, L, a, C, c, s0, hf, h, hL, hc, hs, kk => by
    refine ER_bk ?_
    rw [bk_277_467, if_pos (by decide)]
    refine ER_bk ?_
    rw [bk_277_554]
    exact ⟨_, rfl, kk w tt e q L a C (by omega) (by omega) h⟩
  | f + 1, w, tt, e, q, L, a, C, c, s0, hf, h, hL, hc, hs, kk => by
    obtain ⟨hA, hP, h7, ⟨t0, t1, b1, b4, r1, r6⟩, s4⟩ := id h
    have e0 : e 200 i 0 = Int32.ofNat B := (hA.2.2.2.1 _ _ _ _ _ (la_f (k := 0) (by omega))).trans t0
    obtain ⟨x, e1, hx, x1, f1⟩ := lw_draw (n := 384) (lk := lk) (d := d) (wn := w) (tt := tt) (e := e) (q := q) (j := g) (m := B) b1 (by omega)
    have h1 := ME_e h f1
    have e1R : e1 200 i 1 = Int32.ofNat R := (h1.1.2.2.2.1 _ _ _ _ _ (la_f (k := 1) (by omega))).trans t1
    obtain ⟨r, e2, hr, x2, f2⟩ := lw_draw (n := 384) (lk := lk) (d := d) (wn := w) (tt := tt) (e := e1) (q := q) (j := g) (m := R) r1 (by omega)
    have h2 := ME_e h1 f2
    obtain ⟨z, e3, hz, x3, f3⟩ := lw_draw (n := 384) (lk := lk) (d := d) (wn := w) (tt := tt) (e := e2) (q := q) (j := g) (m := 30) (by omega) (by omega)
    have h3 := ME_e h2 f3
    obtain ⟨e4, w1, t1', e5, q1, w2, t2', e6, q2, w3, t3', e7, q3, w4, t4', e8, q4, w5, t5', e9, q5, w6, t6', e10, q6, w7, t7', e11, q7, L', a', lL, v0, v1, v2, v3, v4, v5, v6, v7, hM⟩ := mw_ask (lk := lk) (d := d) (tt := tt) h3 (by omega) hx hr hz (by omega)
    have k7 : (Nat.ble (c + 2 + 2 + 2 + 2 + 2 + 2 + 2) 400 && Nat.ble (s0 + 2000 + 2000 + 2000 + 2000 + 2000 + 2000 + 2000) 300000) = true := ble2 (by omega) (by simp only [Nat.add_assoc, Nat.reduceAdd]; omega)
    have k6 := ble_dn k7
    have k5 := ble_dn k6
    have k4 := ble_dn k5
    have k3 := ble_dn k4
    have k2 := ble_dn k3
    have k1 := ble_dn k2
    have k0 := ble_dn k1
    refine ER_bk ?_
    rw [bk_277_467, if_neg (show ¬ Int32.ofNat (f + 1) ≤ 0 from fun z => by
      have := (ni_le (b := 0) (by omega) (by omega)).mp z
      omega)]
    simp only [naz, k0, cond_true, e0]
    rw [x1, bi_ok]
    simp only [e1R]
    rw [x2, bi_ok, show (30 : Int32) = Int32.ofNat 30 from rfl, x3, bi_ok, v0, bi_ok, k1, cond_true, v1, br_ok]
    simp only [Nat.beq_refl, cond_true, k2]
    rw [v2, br_ok]
    simp only [Nat.beq_refl, cond_true, k3]
    rw [v3, br_ok]
    simp only [Nat.beq_refl, cond_true, k4]
    rw [v4, br_ok]
    simp only [Nat.beq_refl, cond_true, k5]
    rw [v5, br_ok]
    simp only [Nat.beq_refl, cond_true, k6]
    rw [v6, br_ok]
    simp only [Nat.beq_refl, cond_true, k7]
    rw [v7, br_ok]
    simp only [Nat.beq_refl, cond_true]
    rw [show Int32.ofNat (f + 1) + (-1 : Int32) = Int32.ofNat f from (show Int32.ofNat (f + 1) + (-1 : Int32) = Int32.ofNat (f + 1) - 1 from (Int32.sub_eq_add_neg _ _).symm).trans (ni_sb (a := f + 1) (b := 1) (by omega))]
    exact mw_asks f w7 t7' e11 q7 L' a' (C + 1) (c + 2 + 2 + 2 + 2 + 2 + 2 + 2) (s0 + 2000 + 2000 + 2000 + 2000 + 2000 + 2000 + 2000) (by omega) hM (by omega) (by omega) (by simp only [Nat.add_assoc, Nat.reduceAdd]; omega) kk
/-- trading, then the requests -/
theorem mw_428 {i3 : Nat} {y : Int32} {c s0 : Nat} (h : ME w e q i j B R L t s a m 0) (h7 : s 7 = 0) (hm : tb m 7) (hL : L.length ≤ 190) (hc : c ≤ 180) (hs : s0 + 30000 ≤ 1000 * c)
    (kk : ∀ w' tt' e' q' L' s' a' m' C', L'.length ≤ 320 → C' ≤ 9 → ME w' e' q' i j B R L' t s' a' m' C' → P (.inl (some (ev_R 200 i)), (384, lk, d, w', tt', e', q'))) :
    ER (277, 428, [ev_R 213 j, ev_R 208 g, ev_R 200 i, ev_R 212 i3, ev_I y], [], c, s0) (384, lk, d, w, tt, e, q) P := by
  have tail : ∀ w' tt' e' q' L' s' m' c' s1, L'.length ≤ 198 → c' ≤ 182 → s1 + 30000 ≤ 1000 * c' → ME w' e' q' i j B R L' t s' a m' 0 → ER (277, 459, [ev_R 213 j, ev_R 208 g, ev_R 200 i, ev_R 212 i3, ev_I y], [], c', s1) (384, lk, d, w', tt', e', q') P := fun w' tt' e' q' L' s' m' c' s1 p1 p2 p3 p4 => by
    obtain ⟨f, e1, hf, x1, f1⟩ := lw_draw (n := 384) (lk := lk) (d := d) (wn := w') (tt := tt') (e := e') (q := q') (j := g) (m := 10) (by omega) (by omega)
    refine ER_bk ?_
    rw [bk_277_459]
    simp only [naz, ble2 (show c' ≤ 400 by omega) (show s1 ≤ 300000 by omega), cond_true]
    rw [show (10 : Int32) = Int32.ofNat 10 from rfl, x1, bi_ok]
    exact mw_asks f w' tt' e1 q' L' a 0 c' s1 (by omega) (ME_e p4 f1) (by omega) (by omega) (by omega) fun w2 tt2 e2 q2 L2 a2 C2 z1 z2 z3 => kk w2 tt2 e2 q2 L2 s' a2 m' C2 z1 z2 z3
  obtain ⟨b, e1, hb, x1, f1⟩ := lw_draw (n := 384) (lk := lk) (d := d) (wn := w) (tt := tt) (e := e) (q := q) (j := g) (m := 2) (by omega) (by omega)
  obtain ⟨hA, hP, h7x, hb4, s4⟩ := ME_e h f1
  refine ER_bk ?_
  rw [bk_277_428]
  simp only [naz, ble2 (show c ≤ 400 by omega) (show s0 ≤ 300000 by omega), cond_true]
  rw [show (2 : Int32) = Int32.ofNat 2 from rfl, x1, bi_ok]
  simp only [u3s]
  by_cases cb : Int32.ofNat b = 0
  · have A1 : MA w (ev_u3 e1 200 i 8 1) q i j L t (pw (ev_u1 s 7 1) a 0) := by
      have x := MA_v hA ((LF.rf e1 i).put (v := 1) la_trad) (LV.put0 (v := 1) hA.2.2.2.1 la_trad)
      exact MA_c x (funext fun y => pw_u (by omega) y)
    have g0 : ev_sl 44 = 8 := by decide +kernel
    obtain ⟨w1, t1', e2, q1, v1, -, B1⟩ := ma_str (lk := lk) (d := d) (tt := tt) (k := 44) A1 (by omega)
    rw [if_pos cb, if_neg (show ¬ (1 : Int32) = 0 by decide), ble2 (show c + 2 ≤ 400 by omega) (show s0 + 2000 ≤ 300000 by omega), cond_true, v1, br_ok]
    simp only [Nat.beq_refl, cond_true]
    exact tail w1 t1' e2 q1 _ _ _ _ _ (by rw [List.length_append, sbl_len]; omega) (by omega) (by omega) ⟨B1, PRS_trading hP hm, as7_app h7x (as7_sbl (by omega)), hb4, by rw [u1n (by omega)]; exact s4⟩
  · have A1 : MA w (ev_u3 e1 200 i 8 0) q i j L t (pw s a 0) := by
      have x := MA_v hA ((LF.rf e1 i).put (v := 0) la_trad) (LV.put0 (v := 0) hA.2.2.2.1 la_trad)
      refine MA_c x (funext fun y => ?_)
      by_cases c7 : y = 7
      · subst c7
        rw [u1s, pw_lo (by omega), h7]
      · rw [u1n c7]
    rw [if_neg cb, if_pos trivial]
    exact tail w tt _ q L s m c s0 (by omega) (by omega) (by omega) ⟨A1, hP, h7x, hb4, s4⟩
end MWU
