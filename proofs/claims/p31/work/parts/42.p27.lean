/-! THE LAW'S METHODS, 27: the law draws a Memory, weak rows -/
/-- the Memory that is drawn, its text, what the reference makes of it -/
def ME (w : Nat) (e : Nat → Nat → Nat → Int32) (q : Nat → Nat → Nat → Nat) (i j B R : Nat) (L : List Int32) (t s a : Nat → Int32) (m : Int32) (C : Nat) : Prop :=
  MA w e q i j L t (pw s a C) ∧ PRS L t s a m C ∧ (∀ x ∈ L, as7 x) ∧ (t 0 = Int32.ofNat B ∧ t 1 = Int32.ofNat R ∧ 1 ≤ B ∧ B ≤ 4 ∧ 1 ≤ R ∧ R ≤ 6) ∧ ms_rg (s 4) 0 20
theorem as7_app {L M : List Int32} (h : ∀ x ∈ L, as7 x) (h' : ∀ x ∈ M, as7 x) : ∀ x ∈ L ++ M, as7 x := fun x hx => by
  rcases List.mem_append.mp hx with z | z
  · exact h x z
  · exact h' x z
theorem as7_1 {y : Int32} (h : y = 32 ∨ y = 59) : ∀ x ∈ [y], as7 x := fun x hx => by
  rw [List.mem_singleton] at hx
  rw [hx]
  rcases h with z | z
  · rw [z]
    exact as7_of (c := 32) (by decide)
  · rw [z]
    exact as7_of (c := 59) (by decide)
theorem lq213 {x : Nat} {K : ev_M → ev_T} {μ : ev_M} : (bif Nat.beq 213 213 then K μ else none) = K μ := rfl
theorem ble_dn {a b x y u v : Nat} (h : (Nat.ble (a + x) u && Nat.ble (b + y) v) = true) : (Nat.ble a u && Nat.ble b v) = true := by
  obtain ⟨h1, h2⟩ := (Bool.and_eq_true _ _).mp h
  exact ble2 (Nat.le_trans (Nat.le_add_right a x) (Nat.le_of_ble_eq_true h1)) (Nat.le_trans (Nat.le_add_right b y) (Nat.le_of_ble_eq_true h2))
section MWS
variable {w i j g B R : Nat} {lk : Nat → Nat → Nat → Bool} {d e : Nat → Nat → Nat → Int32} {tt : Nat → Nat} {q : Nat → Nat → Nat → Nat} {L : List Int32} {t s a : Nat → Int32} {m : Int32} {C : Nat} {P : ev_O × ev_M → Prop}
theorem ME_e {e' : Nat → Nat → Nat → Int32} (h : ME w e q i j B R L t s a m C) (hf : ∀ r x p, ¬ (r = 208 ∧ x = g) → e' r x p = e r x p) : ME w e' q i j B R L t s a m C :=
  ⟨MA_e h.1 fun r x p hr => hf r x p (fun z => hr z.1), h.2⟩
/-- which bank it is -/
theorem mw_138 (hq : LQ q i) {x : Nat} (hx : x < 4) {y3 : Int32} {c s0 : Nat} (kk : ER (277, 156, [ev_R 213 j, ev_R 208 g, ev_R 200 i, ev_I y3, ev_R 201 (i + 9 + 9 * x), ev_I (Int32.ofNat x)], [], c, s0) (384, lk, d, w, tt, e, q) P) :
    ∀ f y, y + f = x → ER (277, 138, [ev_R 213 j, ev_R 208 g, ev_R 200 i, ev_I y3, ev_R 201 (i + 9 + 9 * x), ev_I (Int32.ofNat y)], [], c, s0) (384, lk, d, w, tt, e, q) P
  | 0, y, hy => by
    have : y = x := by omega
    subst this
    refine ER_bk ?_
    rw [bk_277_138]
    simp only [hq.1.2.2.2.2.2.2.2, (hq.2 y hx).1, ev_lq_s, ni_in hx (show 4 < 2147483648 by omega), ni_c (show y < 2147483648 by omega), cond_true, Nat.beq_refl]
    exact kk
  | f + 1, y, hy => by
    refine ER_bk ?_
    rw [bk_277_138]
    have ne : Nat.beq (i + 9 + 9 * x) (i + 9 + 9 * y) = false := by
      refine Bool.eq_false_iff.mpr fun z => ?_
      have := Nat.eq_of_beq_eq_true z
      omega
    simp only [hq.1.2.2.2.2.2.2.2, (hq.2 y (by omega)).1, ev_lq_s, ni_in (show y < 4 by omega) (show 4 < 2147483648 by omega), ni_c (show y < 2147483648 by omega), cond_true, ne, cond_false, ni_1]
    exact mw_138 hq hx kk f (y + 1) (by omega)
/-- a weak row is written: what is appended -/
theorem mw_wk (hP : PRS L t s a m C) (h7 : ∀ x ∈ L, as7 x) (hb : t 0 = Int32.ofNat B ∧ t 1 = Int32.ofNat R ∧ 1 ≤ B ∧ B ≤ 4 ∧ 1 ≤ R ∧ R ≤ 6) (s4 : ms_rg (s 4) 0 20) {x r v z : Nat} (hx : x < B) (hr : r < R) (ht : t (4 + 2 * (16 * x + r)) ≤ 0) (hv : v < 20) (hz : z < 20) (hL : L.length ≤ 500)
    (A4 : MA w e q i j L (ev_u1 (ev_u1 t (4 + 2 * (16 * x + r)) (Int32.ofNat (1 + v))) (4 + 2 * (16 * x + r) + 1) (Int32.ofNat z)) (pw s a C)) :
    ∃ w1 t1 e1 q1 w2 t2 e2 q2 w3 t3 e3 q3 w4 t4 e4 q4 w5 t5 e5 q5 w6 t6 e6 q6 w7 t7 e7 q7 w8 t8 e8 q8 w9 t9 e9 q9 L' t', L'.length ≤ L.length + 17 ∧
      EV (226, 0, [ev_R 213 j, ev_R 100 36], [], 0, 0) (384, lk, d, w, tt, e, q) = some (.inl (some (ev_R 213 j)), (384, lk, d, w1, t1, e1, q1)) ∧
      EV (236, 0, [ev_R 213 j, ev_I (Int32.ofNat x)], [], 0, 0) (384, lk, d, w1, t1, e1, q1) = some (.inl (some (ev_R 213 j)), (384, lk, d, w2, t2, e2, q2)) ∧
      EV (240, 0, [ev_R 213 j, ev_I (32 : Int32)], [], 0, 0) (384, lk, d, w2, t2, e2, q2) = some (.inl (some (ev_R 213 j)), (384, lk, d, w3, t3, e3, q3)) ∧
      EV (236, 0, [ev_R 213 j, ev_I (Int32.ofNat r)], [], 0, 0) (384, lk, d, w3, t3, e3, q3) = some (.inl (some (ev_R 213 j)), (384, lk, d, w4, t4, e4, q4)) ∧
      EV (240, 0, [ev_R 213 j, ev_I (32 : Int32)], [], 0, 0) (384, lk, d, w4, t4, e4, q4) = some (.inl (some (ev_R 213 j)), (384, lk, d, w5, t5, e5, q5)) ∧
      (q5 201 (i + 9 + 9 * x) 13 = (i + 9 + 9 * x + 1) + 1 ∧ e5 205 (i + 9 + 9 * x + 1) r = Int32.ofNat (1 + v)) ∧
      EV (236, 0, [ev_R 213 j, ev_I (Int32.ofNat (1 + v))], [], 0, 0) (384, lk, d, w5, t5, e5, q5) = some (.inl (some (ev_R 213 j)), (384, lk, d, w6, t6, e6, q6)) ∧
      EV (240, 0, [ev_R 213 j, ev_I (32 : Int32)], [], 0, 0) (384, lk, d, w6, t6, e6, q6) = some (.inl (some (ev_R 213 j)), (384, lk, d, w7, t7, e7, q7)) ∧
      (q7 201 (i + 9 + 9 * x) 14 = (i + 9 + 9 * x + 2) + 1 ∧ e7 205 (i + 9 + 9 * x + 2) r = Int32.ofNat z) ∧
      EV (236, 0, [ev_R 213 j, ev_I (Int32.ofNat z)], [], 0, 0) (384, lk, d, w7, t7, e7, q7) = some (.inl (some (ev_R 213 j)), (384, lk, d, w8, t8, e8, q8)) ∧
      EV (240, 0, [ev_R 213 j, ev_I (59 : Int32)], [], 0, 0) (384, lk, d, w8, t8, e8, q8) = some (.inl (some (ev_R 213 j)), (384, lk, d, w9, t9, e9, q9)) ∧
      ME w9 e9 q9 i j B R L' t' s a m C := by
  obtain ⟨t0, t1, b1, b4, r1, r6⟩ := hb
  have g1 := dg_le x
  have g2 := dg_le r
  have g3 := dg_le (1 + v)
  have g4 := dg_le z
  have g0 : ev_sl 36 = 5 := by decide +kernel
  obtain ⟨w1, t1', e3, q1, v1, -, B1⟩ := ma_str (lk := lk) (d := d) (tt := tt) (k := 36) A4 (by omega)
  obtain ⟨w2, t2', e4, q2, v2, -, B2⟩ := ma_num (lk := lk) (d := d) (tt := t1') (y := x) (by omega) B1 (by simp only [List.length_append, sbl_len]; omega)
  obtain ⟨w3, t3', e5, q3, v3, -, B3⟩ := ma_chr (lk := lk) (d := d) (tt := t2') (x := 32) (.inl rfl) B2 (by simp only [List.length_append, sbl_len]; omega)
  obtain ⟨w4, t4', e6, q4, v4, -, B4⟩ := ma_num (lk := lk) (d := d) (tt := t3') (y := r) (by omega) B3 (by simp only [List.length_append, List.length_cons, List.length_nil, sbl_len]; omega)
  obtain ⟨w5, t5', e7, q5, v5, -, B5⟩ := ma_chr (lk := lk) (d := d) (tt := t4') (x := 32) (.inl rfl) B4 (by simp only [List.length_append, List.length_cons, List.length_nil, sbl_len]; omega)
  obtain ⟨w6, t6', e8, q6, v6, -, B6⟩ := ma_num (lk := lk) (d := d) (tt := t5') (y := 1 + v) (by omega) B5 (by simp only [List.length_append, List.length_cons, List.length_nil, sbl_len]; omega)
  obtain ⟨w7, t7', e9, q7, v7, -, B7⟩ := ma_chr (lk := lk) (d := d) (tt := t6') (x := 32) (.inl rfl) B6 (by simp only [List.length_append, List.length_cons, List.length_nil, sbl_len]; omega)
  obtain ⟨w8, t8', e10, q8, v8, -, B8⟩ := ma_num (lk := lk) (d := d) (tt := t7') (y := z) (by omega) B7 (by simp only [List.length_append, List.length_cons, List.length_nil, sbl_len]; omega)
  obtain ⟨w9, t9', e11, q9, v9, -, B9⟩ := ma_chr (lk := lk) (d := d) (tt := t8') (x := 59) (.inr rfl) B8 (by simp only [List.length_append, List.length_cons, List.length_nil, sbl_len]; omega)
  have own : e7 205 (i + 9 + 9 * x + 1) r = Int32.ofNat (1 + v) := by
    rw [B5.2.2.2.1 _ _ _ _ _ (la_own (b := x) (r := r) (by omega) (by omega))]
    show ev_u1 _ _ _ _ = _
    rw [u1n (by omega), u1s]
  have fro : e9 205 (i + 9 + 9 * x + 2) r = Int32.ofNat z := by
    rw [B7.2.2.2.1 _ _ _ _ _ (la_from (b := x) (r := r) (by omega) (by omega))]
    show ev_u1 _ _ _ _ = _
    rw [u1s]
  obtain ⟨-, m13, -, -⟩ := B5.1.2 x (by omega)
  obtain ⟨-, -, n14, -⟩ := B7.1.2 x (by omega)
  have P9 := PRS_weak (own := 1 + v) (fr := z) hP t0 t1 b1 r1 b4 (by omega) hx hr (by omega) (by omega) (by omega) ht
  refine ⟨w1, t1', e3, q1, w2, t2', e4, q2, w3, t3', e5, q3, w4, t4', e6, q4, w5, t5', e7, q5, w6, t6', e8, q6, w7, t7', e9, q7, w8, t8', e10, q8, w9, t9', e11, q9, _, _, ?_, v1, v2, v3, v4, v5, ⟨m13, own⟩, v6, v7, ⟨n14, fro⟩, v8, v9, B9, P9, as7_app (as7_app (as7_app (as7_app (as7_app (as7_app (as7_app (as7_app (as7_app h7 (as7_sbl (by omega))) (as7_dg (by omega))) (as7_1 (.inl rfl))) (as7_dg (by omega))) (as7_1 (.inl rfl))) (as7_dg (by omega))) (as7_1 (.inl rfl))) (as7_dg (by omega))) (as7_1 (.inr rfl)), ⟨by rw [u1n (by omega), u1n (by omega), t0], by rw [u1n (by omega), u1n (by omega), t1], b1, b4, r1, r6⟩, s4⟩
  simp only [List.length_append, List.length_cons, List.length_nil, sbl_len]
  omega
/-- a weak row is written -/
theorem mw_180 (h : ME w e q i j B R L t s a m C) {x r : Nat} (hx : x < B) (hr : r < R) (ht : t (4 + 2 * (16 * x + r)) ≤ 0) {y3 : Int32} {c s0 : Nat} (k9 : (Nat.ble (c + 2 + 2 + 2 + 2 + 2 + 2 + 2 + 2 + 2) 400 && Nat.ble (s0 + 2000 + 2000 + 2000 + 2000 + 2000 + 2000 + 2000 + 2000 + 2000) 300000) = true) (hL : L.length ≤ 500)
    (kk : ∀ w' tt' e' q' L' t', L'.length ≤ L.length + 17 → ME w' e' q' i j B R L' t' s a m C → ER (277, 269, [ev_R 213 j, ev_R 208 g, ev_R 200 i, ev_I y3, ev_R 201 (i + 9 + 9 * x), ev_I (Int32.ofNat x), ev_I (Int32.ofNat r)], [], c + 2 + 2 + 2 + 2 + 2 + 2 + 2 + 2 + 2, s0 + 2000 + 2000 + 2000 + 2000 + 2000 + 2000 + 2000 + 2000 + 2000) (384, lk, d, w', tt', e', q') P) :
    ER (277, 180, [ev_R 213 j, ev_R 208 g, ev_R 200 i, ev_I y3, ev_R 201 (i + 9 + 9 * x), ev_I (Int32.ofNat x), ev_I (Int32.ofNat r)], [], c, s0) (384, lk, d, w, tt, e, q) P := by
  obtain ⟨hA, hP, h7, ⟨t0, t1, b1, b4, r1, r6⟩, s4⟩ := id h
  have hq := hA.1
  obtain ⟨-, k13, k14, -⟩ := hq.2 x (by omega)
  obtain ⟨v, e1, hv, x1, f1⟩ := lw_draw (n := 384) (lk := lk) (d := d) (wn := w) (tt := tt) (e := e) (q := q) (j := g) (m := 20) (by omega) (by omega)
  have A1 := MA_e hA (fun r x p hr => f1 r x p (fun z => hr z.1))
  have A2 : MA w (ev_u3 e1 205 (i + 9 + 9 * x + 1) r (Int32.ofNat (1 + v))) q i j L (ev_u1 t (4 + 2 * (16 * x + r)) (Int32.ofNat (1 + v))) (pw s a C) := MA_v A1 ((LF.rf e1 i).put (la_own (by omega) (by omega))) (LV.put1 A1.2.2.2.1 (la_own (by omega) (by omega)))
  obtain ⟨z, e2, hz, x2, f2⟩ := lw_draw (n := 384) (lk := lk) (d := d) (wn := w) (tt := tt) (e := ev_u3 e1 205 (i + 9 + 9 * x + 1) r (Int32.ofNat (1 + v))) (q := q) (j := g) (m := 20) (by omega) (by omega)
  have A3 := MA_e A2 (fun r x p hr => f2 r x p (fun z => hr z.1))
  have A4 : MA w (ev_u3 e2 205 (i + 9 + 9 * x + 2) r (Int32.ofNat z)) q i j L (ev_u1 (ev_u1 t (4 + 2 * (16 * x + r)) (Int32.ofNat (1 + v))) (4 + 2 * (16 * x + r) + 1) (Int32.ofNat z)) (pw s a C) := MA_v A3 ((LF.rf e2 i).put (la_from (by omega) (by omega))) (LV.put1 A3.2.2.2.1 (la_from (by omega) (by omega)))
  obtain ⟨w1, t1', e3, q1, w2, t2', e4, q2, w3, t3', e5, q3, w4, t4', e6, q4, w5, t5', e7, q5, w6, t6', e8, q6, w7, t7', e9, q7, w8, t8', e10, q8, w9, t9', e11, q9, L', t', lL, v1, v2, v3, v4, v5, ⟨m13, own⟩, v6, v7, ⟨n14, fro⟩, v8, v9, hM⟩ := mw_wk (lk := lk) (d := d) (tt := tt) (w := w) (e := ev_u3 e2 205 (i + 9 + 9 * x + 2) r (Int32.ofNat z)) (q := q) (v := v) (z := z) hP h7 ⟨t0, t1, b1, b4, r1, r6⟩ s4 hx hr ht hv hz hL A4
  have fin := kk w9 t9' e11 q9 L' t' lL hM
  have k8 := ble_dn k9
  have k7 := ble_dn k8
  have k6 := ble_dn k7
  have k5 := ble_dn k6
  have k4 := ble_dn k5
  have k3 := ble_dn k4
  have k2 := ble_dn k3
  have k1 := ble_dn k2
  have k0 := ble_dn k1
  refine ER_bk ?_
  rw [bk_277_180, k13, ev_lq_s]
  simp only [naz, k0, cond_true]
  rw [show (20 : Int32) = Int32.ofNat 20 from rfl, x1, bi_ok]
  simp only [ni_in (show r < 16 by omega) (show 16 < 2147483648 by omega), ni_c (show r < 2147483648 by omega), cond_true, k14, ev_lq_s, show (1 : Int32) + Int32.ofNat v = Int32.ofNat (1 + v) from (Int32.ofNat_add 1 v).symm]
  rw [x2, bi_ok]
  simp only [ni_in (show r < 16 by omega) (show 16 < 2147483648 by omega), ni_c (show r < 2147483648 by omega), cond_true, k1]
  rw [v1, br_ok]
  simp only [Nat.beq_refl, cond_true, k2]
  rw [v2, br_ok]
  simp only [Nat.beq_refl, cond_true, k3]
  rw [v3, br_ok]
  simp only [Nat.beq_refl, cond_true, k4]
  rw [v4, br_ok]
  simp only [Nat.beq_refl, cond_true, k5]
  rw [v5, br_ok]
  simp only [Nat.beq_refl, cond_true, k6, m13, ev_lq_s, ni_in (show r < 16 by omega) (show 16 < 2147483648 by omega), ni_c (show r < 2147483648 by omega), own]
  rw [v6, br_ok]
  simp only [Nat.beq_refl, cond_true, k7]
  rw [v7, br_ok]
  simp only [Nat.beq_refl, cond_true, k8, n14, ev_lq_s, ni_in (show r < 16 by omega) (show 16 < 2147483648 by omega), ni_c (show r < 2147483648 by omega), fro]
  rw [v8, br_ok]
  simp only [Nat.beq_refl, cond_true, k9]
  rw [v9, br_ok]
  simp only [Nat.beq_refl, cond_true]
  exact fin
/-- the weak rows -/
theorem mw_loop : ∀ f w tt (e : Nat → Nat → Nat → Int32) (q : Nat → Nat → Nat → Nat) L t c s0, f ≤ 3 → ME w e q i j B R L t s a m C → L.length + 17 * f ≤ 100 → c + 18 * f ≤ 117 → s0 + 30000 ≤ 1000 * c →
    (∀ w' tt' e' q' L' t' c' s', L'.length ≤ 100 → c' ≤ 117 → s' + 30000 ≤ 1000 * c' → ME w' e' q' i j B R L' t' s a m C → ER (277, 275, [ev_R 213 j, ev_R 208 g, ev_R 200 i, ev_I (Int32.ofNat 0)], [], c', s') (384, lk, d, w', tt', e', q') P) →
    ER (277, 116, [ev_R 213 j, ev_R 208 g, ev_R 200 i, ev_I (Int32.ofNat f)], [], c, s0) (384, lk, d, w, tt, e, q) P
  | 0, w, tt, e, q, L, t, c, s0, hf, h, hL, hc, hs, kk => by
    refine ER_bk ?_
    rw [bk_277_116, if_pos (by decide)]
    exact kk w tt e q L t c s0 (by omega) (by omega) (by omega) h
  | f + 1, w, tt, e, q, L, t, c, s0, hf, h, hL, hc, hs, kk => by
    obtain ⟨hA, hP, h7, ⟨t0, t1, b1, b4, r1, r6⟩, s4⟩ := id h
    have hq := hA.1
    have e0 : e 200 i 0 = Int32.ofNat B := (hA.2.2.2.1 _ _ _ _ _ (la_f (k := 0) (by omega))).trans t0
    obtain ⟨x, e1, hx, x1, f1⟩ := lw_draw (n := 384) (lk := lk) (d := d) (wn := w) (tt := tt) (e := e) (q := q) (j := g) (m := B) b1 (by omega)
    have h1 := ME_e h f1
    have e1R : e1 200 i 1 = Int32.ofNat R := (h1.1.2.2.2.1 _ _ _ _ _ (la_f (k := 1) (by omega))).trans t1
    obtain ⟨r, e2, hr, x2, f2⟩ := lw_draw (n := 384) (lk := lk) (d := d) (wn := w) (tt := tt) (e := e1) (q := q) (j := g) (m := R) r1 (by omega)
    have h2 := ME_e h1 f2
    have own : e2 205 (i + 9 + 9 * x + 1) r = t (4 + 2 * (16 * x + r)) := h2.1.2.2.2.1 _ _ _ _ _ (la_own (b := x) (r := r) (by omega) (by omega))
    have next : ∀ w' tt' e' q' L' t' c' s', L'.length ≤ L.length + 17 → c' ≤ c + 18 → s' + 30000 ≤ 1000 * c' → ME w' e' q' i j B R L' t' s a m C → ER (277, 269, [ev_R 213 j, ev_R 208 g, ev_R 200 i, ev_I (Int32.ofNat (f + 1)), ev_R 201 (i + 9 + 9 * x), ev_I (Int32.ofNat x), ev_I (Int32.ofNat r)], [], c', s') (384, lk, d, w', tt', e', q') P := fun w' tt' e' q' L' t' c' s' q1 q2 q3 q4 => by
      refine ER_bk ?_
      rw [bk_277_269, show Int32.ofNat (f + 1) + (-1 : Int32) = Int32.ofNat f from (show Int32.ofNat (f + 1) + (-1 : Int32) = Int32.ofNat (f + 1) - 1 from (Int32.sub_eq_add_neg _ _).symm).trans (ni_sb (a := f + 1) (b := 1) (by omega))]
      exact mw_loop f w' tt' e' q' L' t' c' s' (by omega) q4 (by omega) (by omega) (by omega) kk
    refine ER_bk ?_
    rw [bk_277_116, if_neg (show ¬ Int32.ofNat (f + 1) ≤ 0 from fun z => by
      have := (ni_le (b := 0) (by omega) (by omega)).mp z
      omega), hq.1.2.2.2.2.2.2.2, ev_lq_s]
    simp only [naz, ble2 (show c ≤ 400 by omega) (show s0 ≤ 300000 by omega), cond_true, e0]
    rw [x1, bi_ok]
    simp only [ni_in (show x < 4 by omega) (show 4 < 2147483648 by omega), ni_c (show x < 2147483648 by omega), cond_true, (hq.2 x (by omega)).1, ev_lq_s]
    refine mw_138 hq (by omega) ?_ x 0 (by omega)
    refine ER_bk ?_
    rw [bk_277_156]
    simp only [naz, ble2 (show c ≤ 400 by omega) (show s0 ≤ 300000 by omega), cond_true, e1R]
    rw [x2, bi_ok]
    simp only [(hq.2 x (by omega)).2.1, ev_lq_s, ni_in (show r < 16 by omega) (show 16 < 2147483648 by omega), ni_c (show r < 2147483648 by omega), cond_true, own]
    by_cases ct : t (4 + 2 * (16 * x + r)) ≤ 0
    · rw [if_pos ct]
      exact mw_180 (c := c) (s0 := s0) h2 hx hr ct (ble2 (by omega) (by simp only [Nat.add_assoc, Nat.reduceAdd]; omega)) (by omega) fun w' tt' e' q' L' t' y1 y2 => next w' tt' e' q' L' t' (c + 2 + 2 + 2 + 2 + 2 + 2 + 2 + 2 + 2) (s0 + 2000 + 2000 + 2000 + 2000 + 2000 + 2000 + 2000 + 2000 + 2000) y1 (by omega) (by simp only [Nat.add_assoc, Nat.reduceAdd]; omega) y2
    · rw [if_neg ct]
      exact next w tt e2 q L t c s0 (by omega) (by omega) (by omega) h2
end MWS
