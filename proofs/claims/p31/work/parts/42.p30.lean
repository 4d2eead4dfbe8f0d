/-! THE LAW'S METHODS, 30: the law draws a Memory -/
theorem mn_pb : mn_w = pb us_s := by
  have all : ∀ K, K < 55 → mn_w K = pb us_s K := by decide +kernel
  funext K
  by_cases c : K < 55
  · exact all K c
  · unfold mn_w pb
    rw [if_neg (by omega), if_neg (by omega), if_neg (by omega), if_neg (by omega), if_neg (by omega), if_neg (by omega), if_neg (by omega), if_neg (by omega), if_neg (by omega), if_neg (by omega), if_neg (by omega)]
section MWV
variable {w j g h cap : Nat} {lk : Nat → Nat → Nat → Bool} {d e : Nat → Nat → Nat → Int32} {tt : Nat → Nat} {q : Nat → Nat → Nat → Nat} {P : ev_O × ev_M → Prop}
theorem mw_memory (hs : SB j w e q h cap []) (hc : 0 < cap) (hg : g < w)
    (kk : ∀ w' tt' e' q' B R L t s a m C, L.length ≤ 320 → C ≤ 9 → ME w' e' q' w j B R L t s a m C → P (.inl (some (ev_R 200 w)), (384, lk, d, w', tt', e', q'))) :
    ER (277, 0, [ev_R 213 j, ev_R 208 g], [], 0, 0) (384, lk, d, w, tt, e, q) P := by
  have hj : j < w := hs.2.2.1
  have A0 : MA (w + 45) (mn_e (ev_w3 e 200 w (fun _ => 0)) w) (mn_q (ev_z3 q 200 w) w) w j [] (fun _ => 0) (pw us_s (fun _ => 0) 0) := by
    obtain ⟨s1, s2, s3, s4, s5, s6, s7, s8, s9⟩ := hs
    have fe : ∀ r x p, x < w → mn_e (ev_w3 e 200 w (fun _ => 0)) w r x p = e r x p := fun r x p hx => by rw [mn_e_n (by omega), w3_ne (by omega)]
    have fq : ∀ r x p, x < w → mn_q (ev_z3 q 200 w) w r x p = q r x p := fun r x p hx => by rw [mn_q_n (by omega), z3_ne (by omega)]
    have v0 := mm_LV (e := ev_w3 e 200 w (fun _ => 0)) (i := w) (fun p => by rw [w3_eq ⟨rfl, rfl⟩])
    rw [mn_pb] at v0
    exact ⟨mm_LQ, hj, by omega, v0, h, cap, ⟨by rw [fq _ _ _ s3, s1], by omega, by omega, by rw [fe _ _ _ s3, s4], by rw [fe _ _ _ s3, s5], by rw [fe _ _ _ s2, s6], s7, s8, fun k hk => by rw [fe _ _ _ s2, s9 k hk]⟩, hc⟩
  have e260 := mm_new (lk := lk) (d := d) (tt := ev_n1 tt w 200) (e := ev_w3 e 200 w (fun _ => 0)) (q := ev_z3 q 200 w) (i := w)
  generalize mn_e (ev_w3 e 200 w (fun _ => 0)) w = E0 at A0 e260
  generalize mn_q (ev_z3 q 200 w) w = Q at A0 e260
  generalize mn_t (ev_n1 tt w 200) w = T0 at e260
  obtain ⟨B0, e1, hB, x1, f1⟩ := lw_draw (n := 384) (lk := lk) (d := d) (wn := w + 45) (tt := T0) (e := E0) (q := Q) (j := g) (m := 4) (by omega) (by omega)
  have A1 := MA_e A0 (fun r x p hr => f1 r x p (fun z => hr z.1))
  have A1' := MA_v A1 ((LF.rf e1 w).put (v := Int32.ofNat (1 + B0)) (la_f (k := 0) (by omega))) (LV.put1 (v := Int32.ofNat (1 + B0)) A1.2.2.2.1 (la_f (k := 0) (by omega)))
  obtain ⟨R0, e2, hR, x2, f2⟩ := lw_draw (n := 384) (lk := lk) (d := d) (wn := w + 45) (tt := T0) (e := ev_u3 e1 200 w 0 (Int32.ofNat (1 + B0))) (q := Q) (j := g) (m := 6) (by omega) (by omega)
  have A2 := MA_e A1' (fun r x p hr => f2 r x p (fun z => hr z.1))
  have A2' := MA_v A2 ((LF.rf e2 w).put (v := Int32.ofNat (1 + R0)) (la_f (k := 1) (by omega))) (LV.put1 (v := Int32.ofNat (1 + R0)) A2.2.2.2.1 (la_f (k := 1) (by omega)))
  obtain ⟨D0, e3, hD, x3, f3⟩ := lw_draw (n := 384) (lk := lk) (d := d) (wn := w + 45) (tt := T0) (e := ev_u3 e2 200 w 1 (Int32.ofNat (1 + R0))) (q := Q) (j := g) (m := 30) (by omega) (by omega)
  have A3 := MA_e A2' (fun r x p hr => f3 r x p (fun z => hr z.1))
  have A3' := MA_v A3 ((LF.rf e3 w).put (v := Int32.ofNat (4 + D0)) (la_f (k := 2) (by omega))) (LV.put1 (v := Int32.ofNat (4 + D0)) A3.2.2.2.1 (la_f (k := 2) (by omega)))
  obtain ⟨I0, e4, hI, x4, f4⟩ := lw_draw (n := 384) (lk := lk) (d := d) (wn := w + 45) (tt := T0) (e := ev_u3 e3 200 w 2 (Int32.ofNat (4 + D0))) (q := Q) (j := g) (m := 8) (by omega) (by omega)
  have A4 := MA_e A3' (fun r x p hr => f4 r x p (fun z => hr z.1))
  have A4' := MA_v A4 ((LF.rf e4 w).put (v := Int32.ofNat (1 + I0)) (la_f (k := 3) (by omega))) (LV.put1 (v := Int32.ofNat (1 + I0)) A4.2.2.2.1 (la_f (k := 3) (by omega)))
  have g1 := dg_le (1 + B0)
  have g2 := dg_le (1 + R0)
  have g3 := dg_le (4 + D0)
  have g4 := dg_le (1 + I0)
  have g0 : ev_sl 35 = 7 := by decide +kernel
  obtain ⟨w1, t1, m1, q1, v1, -, B1⟩ := ma_str (lk := lk) (d := d) (tt := T0) (k := 35) A4' (by rw [g0]; decide)
  obtain ⟨w2, t2, m2, q2, v2, -, B2⟩ := ma_num (lk := lk) (d := d) (tt := t1) (y := 1 + B0) (by omega) B1 (by simp only [List.length_append, List.length_nil, sbl_len]; omega)
  obtain ⟨w3, t3, m3, q3, v3, -, B3⟩ := ma_chr (lk := lk) (d := d) (tt := t2) (x := 32) (.inl rfl) B2 (by simp only [List.length_append, List.length_nil, sbl_len]; omega)
  obtain ⟨w4, t4, m4, q4, v4, -, B4⟩ := ma_num (lk := lk) (d := d) (tt := t3) (y := 1 + R0) (by omega) B3 (by simp only [List.length_append, List.length_cons, List.length_nil, sbl_len]; omega)
  obtain ⟨w5, t5, m5, q5, v5, -, B5⟩ := ma_chr (lk := lk) (d := d) (tt := t4) (x := 32) (.inl rfl) B4 (by simp only [List.length_append, List.length_cons, List.length_nil, sbl_len]; omega)
  obtain ⟨w6, t6, m6, q6, v6, -, B6⟩ := ma_num (lk := lk) (d := d) (tt := t5) (y := 4 + D0) (by omega) B5 (by simp only [List.length_append, List.length_cons, List.length_nil, sbl_len]; omega)
  obtain ⟨w7, t7, m7, q7, v7, -, B7⟩ := ma_chr (lk := lk) (d := d) (tt := t6) (x := 32) (.inl rfl) B6 (by simp only [List.length_append, List.length_cons, List.length_nil, sbl_len]; omega)
  obtain ⟨w8, t8, m8, q8, v8, -, B8⟩ := ma_num (lk := lk) (d := d) (tt := t7) (y := 1 + I0) (by omega) B7 (by simp only [List.length_append, List.length_cons, List.length_nil, sbl_len]; omega)
  obtain ⟨w9, t9, m9, q9, v9, -, B9⟩ := ma_chr (lk := lk) (d := d) (tt := t8) (x := 59) (.inr rfl) B8 (by simp only [List.length_append, List.length_cons, List.length_nil, sbl_len]; omega)
  have n0 : m1 200 w 0 = Int32.ofNat (1 + B0) := (B1.2.2.2.1 _ _ _ _ _ (la_f (k := 0) (by omega))).trans (by
    show ev_u1 _ _ _ _ = _
    simp (disch := omega) only [u1n, u1s])
  have n1 : m3 200 w 1 = Int32.ofNat (1 + R0) := (B3.2.2.2.1 _ _ _ _ _ (la_f (k := 1) (by omega))).trans (by
    show ev_u1 _ _ _ _ = _
    simp (disch := omega) only [u1n, u1s])
  have n2 : m5 200 w 2 = Int32.ofNat (4 + D0) := (B5.2.2.2.1 _ _ _ _ _ (la_f (k := 2) (by omega))).trans (by
    show ev_u1 _ _ _ _ = _
    simp (disch := omega) only [u1n, u1s])
  have n3 : m7 200 w 3 = Int32.ofNat (1 + I0) := (B7.2.2.2.1 _ _ _ _ _ (la_f (k := 3) (by omega))).trans (by
    show ev_u1 _ _ _ _ = _
    simp (disch := omega) only [u1n, u1s])
  have M9 : ME w9 m9 q9 w j (1 + B0) (1 + R0) _ _ us_s (fun _ => 0) 0 0 := ⟨B9, PRS_head (by omega) (by omega) (by omega) (by omega) (by omega) (by omega) (by omega) (by omega), as7_app (as7_app (as7_app (as7_app (as7_app (as7_app (as7_app (as7_app (as7_app (fun x hx => nomatch hx) (as7_sbl (by omega))) (as7_dg (by omega))) (as7_1 (.inl rfl))) (as7_dg (by omega))) (as7_1 (.inl rfl))) (as7_dg (by omega))) (as7_1 (.inl rfl))) (as7_dg (by omega))) (as7_1 (.inr rfl)), ⟨by simp (disch := omega) only [u1n, u1s], by simp (disch := omega) only [u1n, u1s], by omega, by omega, by omega, by omega⟩, by unfold ms_rg; decide⟩
  have L9 : (([] : List Int32) ++ sbl 35 ++ dg (1 + B0) ++ [32] ++ dg (1 + R0) ++ [32] ++ dg (4 + D0) ++ [32] ++ dg (1 + I0) ++ [59]).length ≤ 19 := by
    simp only [List.length_append, List.length_cons, List.length_nil, sbl_len]
    omega
  have fin : ER (277, 110, [ev_R 213 j, ev_R 208 g, ev_R 200 w], [], 63, 18926) (384, lk, d, w9, t9, m9, q9) P := by
    obtain ⟨f, e5, hf, x5, f5⟩ := lw_draw (n := 384) (lk := lk) (d := d) (wn := w9) (tt := t9) (e := m9) (q := q9) (j := g) (m := 4) (by omega) (by omega)
    refine ER_bk ?_
    rw [bk_277_110]
    simp only [naz, show (Nat.ble 63 400 && Nat.ble 18926 300000) = true from rfl, cond_true]
    rw [show (4 : Int32) = Int32.ofNat 4 from rfl, x5, bi_ok]
    refine mw_loop f w9 t9 e5 q9 _ _ 63 18926 (by omega) (ME_e M9 f5) (by omega) (by omega) (by omega) fun w' tt' e' q' L' t' c' s' z1 z2 z3 z4 => ?_
    have S0 : SL (ev_n3 (ev_n3 (ev_n3 (ev_n3 (ev_n3 (ev_n3 (ev_n3 (ev_z3 q' 212 w') 212 w' 0 (37 + 1)) 212 w' 1 (38 + 1)) 212 w' 2 (39 + 1)) 212 w' 3 (40 + 1)) 212 w' 4 (41 + 1)) 212 w' 5 (42 + 1)) 212 w' 6 (43 + 1)) (w' + 1) w' := by
      refine ⟨by omega, fun k hk => ?_⟩
      match k, hk with
      | 0, _ => simp (disch := omega) only [n3_ne, n3_eq]
      | 1, _ => simp (disch := omega) only [n3_ne, n3_eq]
      | 2, _ => simp (disch := omega) only [n3_ne, n3_eq]
      | 3, _ => simp (disch := omega) only [n3_ne, n3_eq]
      | 4, _ => simp (disch := omega) only [n3_ne, n3_eq]
      | 5, _ => simp (disch := omega) only [n3_ne, n3_eq]
      | 6, _ => simp (disch := omega) only [n3_ne, n3_eq]
    have M2 : ME (w' + 1) (ev_w3 e' 212 w' (fun _ => 0)) (ev_n3 (ev_n3 (ev_n3 (ev_n3 (ev_n3 (ev_n3 (ev_n3 (ev_z3 q' 212 w') 212 w' 0 (37 + 1)) 212 w' 1 (38 + 1)) 212 w' 2 (39 + 1)) 212 w' 3 (40 + 1)) 212 w' 4 (41 + 1)) 212 w' 5 (42 + 1)) 212 w' 6 (43 + 1)) w j (1 + B0) (1 + R0) L' t' us_s (fun _ => 0) 0 0 :=
      ⟨MA_up z4.1 (by omega) (fun r x p hx => w3_ne (by omega)) (fun r x p hx => by rw [n3_ne (by omega), n3_ne (by omega), n3_ne (by omega), n3_ne (by omega), n3_ne (by omega), n3_ne (by omega), n3_ne (by omega), z3_ne (by omega)]), z4.2⟩
    refine ER_bk ?_
    rw [bk_277_275, ble2 (show c' + 1 ≤ 400 by omega) (show s' + 7 ≤ 300000 by omega)]
    refine mw_sets (i3 := w') 7 0 (w' + 1) _ _ _ L' us_s 0 (c' + 1) (s' + 7) (by omega) M2 S0 (by decide +kernel) (fun x _ hx => tb_0 hx) (by omega) (by omega) (by omega) fun w2 tt2 e2 q2 L2 s2 m2' c2 s3 y1 y2 y3 y4 y5 y6 => ?_
    exact mw_428 y6 y4 y5 y1 y2 y3 fun w3 tt3 e3 q3 L3 s4 a3 m3' C3 u1 u2 u3 => kk w3 tt3 e3 q3 _ _ L3 t' s4 a3 m3' C3 u1 u2 u3
  refine ER_bk ?_
  rw [bk_277_0]
  show ∃ r, ev_bv _ _ _ = _ ∧ _
  rw [e260, bv_ok, show (4 : Int32) = Int32.ofNat 4 from rfl, x1, bi_ok]
  simp only [show (1 : Int32) + Int32.ofNat B0 = Int32.ofNat (1 + B0) from (Int32.ofNat_add 1 B0).symm]
  rw [show (6 : Int32) = Int32.ofNat 6 from rfl, x2, bi_ok]
  simp only [show (1 : Int32) + Int32.ofNat R0 = Int32.ofNat (1 + R0) from (Int32.ofNat_add 1 R0).symm]
  rw [show (30 : Int32) = Int32.ofNat 30 from rfl, x3, bi_ok]
  simp only [show Int32.ofNat 4 + Int32.ofNat D0 = Int32.ofNat (4 + D0) from (Int32.ofNat_add 4 D0).symm]
  rw [show (8 : Int32) = Int32.ofNat 8 from rfl, x4, bi_ok]
  simp only [show (1 : Int32) + Int32.ofNat I0 = Int32.ofNat (1 + I0) from (Int32.ofNat_add 1 I0).symm]
  rw [v1, br_ok]
  simp only [Nat.beq_refl, cond_true, n0]
  rw [v2, br_ok]
  simp only [Nat.beq_refl, cond_true]
  rw [v3, br_ok]
  simp only [Nat.beq_refl, cond_true, n1]
  rw [v4, br_ok]
  simp only [Nat.beq_refl, cond_true]
  rw [v5, br_ok]
  simp only [Nat.beq_refl, cond_true, n2]
  rw [v6, br_ok]
  simp only [Nat.beq_refl, cond_true]
  rw [v7, br_ok]
  simp only [Nat.beq_refl, cond_true, n3]
  rw [v8, br_ok]
  simp only [Nat.beq_refl, cond_true]
  rw [v9, br_ok]
  simp only [Nat.beq_refl, cond_true]
  exact fin
end MWV
