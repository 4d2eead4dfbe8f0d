/-! THE PROGRAM AGAINST THE REFERENCE, 45: a request is asked -/
def ms_addq (w : Nat → Int32) (C : Nat) (b r tm : Int32) : Nat → Int32 :=
  ev_u1 (ev_u1 (ev_u1 (ev_u1 (ev_u1 (ev_u1 w 9 (Int32.ofNat (C + 1))) (375 + 6 * C + 0) b) (375 + 6 * C + 1) r) (375 + 6 * C + 2) tm) (375 + 6 * C + 3) 0) (375 + 6 * C + 4) (-1)
theorem ms_addq_n {w : Nat → Int32} {C k : Nat} {b r tm : Int32} (h9 : k ≠ 9) (h : k < 375 + 6 * C ∨ 375 + 6 * C + 5 ≤ k) : ms_addq w C b r tm k = w k := by
  unfold ms_addq
  simp (disch := omega) only [u1n]
theorem ms_addq_9 {w : Nat → Int32} {C : Nat} {b r tm : Int32} : ms_addq w C b r tm 9 = Int32.ofNat (C + 1) := by
  unfold ms_addq
  simp (disch := omega) only [u1n, u1s]
theorem ms_addq_q {w : Nat → Int32} {C : Nat} {b r tm : Int32} : ms_addq w C b r tm (375 + 6 * C + 0) = b ∧ ms_addq w C b r tm (375 + 6 * C + 1) = r ∧ ms_addq w C b r tm (375 + 6 * C + 2) = tm ∧ ms_addq w C b r tm (375 + 6 * C + 3) = 0 ∧ ms_addq w C b r tm (375 + 6 * C + 4) = -1 := by
  unfold ms_addq
  simp (disch := omega) only [u1n, u1s, and_self]
def mc_addq (d : Nat → Nat → Nat → Int32) (i C : Nat) (b r tm : Int32) : Nat → Nat → Nat → Int32 := ev_u3 (ev_u3 (ev_u3 (ev_u3 (ev_u3 (ev_u3 d 18 i C b) 19 i C r) 20 i C tm) 21 i C 0) 22 i C (-1)) 17 i 0 (Int32.ofNat (C + 1))
theorem CS_add {d : Nat → Nat → Nat → Int32} {i C K : Nat} {w : Nat → Int32} {b r tm : Int32} (hs : CS d i w C K) (hC : C < 40) : CS (mc_addq d i C b r tm) i (ms_addq w C b r tm) (C + 1) K := by
  obtain ⟨s1, s2, s3, s4, s5, s6, s7, s8, s9, s10, s11, ⟨w9, w10, hKm, h40⟩, hi1, hi2⟩ := hs
  have lo : ∀ k, k < 375 → k ≠ 9 → ms_addq w C b r tm k = w k := fun k hk h9 => ms_addq_n h9 (.inl (by omega))
  have hi : ∀ q x, q < C → x < 6 → ms_addq w C b r tm (375 + 6 * q + x) = w (375 + 6 * q + x) := fun q x hq hx => ms_addq_n (by omega) (.inl (by omega))
  obtain ⟨n0, n1, n2, n3, n4⟩ := ms_addq_q (w := w) (C := C) (b := b) (r := r) (tm := tm)
  have dn : ∀ r', r' ≠ 18 → r' ≠ 19 → r' ≠ 20 → r' ≠ 21 → r' ≠ 22 → r' ≠ 17 → mc_addq d i C b r tm r' = d r' := fun r' h1 h2 h3 h4 h5 h6 => by
    unfold mc_addq
    rw [u3n h6, u3n h5, u3n h4, u3n h3, u3n h2, u3n h1]
  have d18 : mc_addq d i C b r tm 18 i = ev_u1 (d 18 i) C b := by
    unfold mc_addq
    simp (disch := omega) only [u3n, u3r]
  have d19 : mc_addq d i C b r tm 19 i = ev_u1 (d 19 i) C r := by
    unfold mc_addq
    simp (disch := omega) only [u3n, u3r]
  have d20 : mc_addq d i C b r tm 20 i = ev_u1 (d 20 i) C tm := by
    unfold mc_addq
    simp (disch := omega) only [u3n, u3r]
  have d21 : mc_addq d i C b r tm 21 i = ev_u1 (d 21 i) C 0 := by
    unfold mc_addq
    simp (disch := omega) only [u3n, u3r]
  have d22 : mc_addq d i C b r tm 22 i = ev_u1 (d 22 i) C (-1) := by
    unfold mc_addq
    simp (disch := omega) only [u3n, u3r]
  have d17 : mc_addq d i C b r tm 17 i = ev_u1 (d 17 i) 0 (Int32.ofNat (C + 1)) := by
    unfold mc_addq
    simp (disch := omega) only [u3n, u3r]
  have d23 : mc_addq d i C b r tm 23 = d 23 := dn 23 (by decide) (by decide) (by decide) (by decide) (by decide) (by decide)
  refine ⟨fun k hk => ?_, ?_, ?_, ?_, ?_, ?_, ?_, fun k hk => ?_, fun b' hb => ?_, fun c hc => ?_, fun q hq => ?_, ⟨ms_addq_9, ?_, ?_, by omega⟩, fun q hq hne => ?_, fun p hp => ?_⟩
  · rw [dn 1 (by decide) (by decide) (by decide) (by decide) (by decide) (by decide), lo k (by omega) (by omega), s1 k hk]
  · rw [dn 0 (by decide) (by decide) (by decide) (by decide) (by decide) (by decide), lo 7 (by omega) (by omega), s2]
  · rw [dn 0 (by decide) (by decide) (by decide) (by decide) (by decide) (by decide), lo 8 (by omega) (by omega), s3]
  · rw [dn 0 (by decide) (by decide) (by decide) (by decide) (by decide) (by decide), lo 17 (by omega) (by omega), s4]
  · rw [dn 0 (by decide) (by decide) (by decide) (by decide) (by decide) (by decide), lo 18 (by omega) (by omega), s5]
  · rw [d17, u1s, ms_addq_9]
  · rw [d17, u1n (by decide), lo 10 (by omega) (by omega), s7]
  · rw [dn 2 (by decide) (by decide) (by decide) (by decide) (by decide) (by decide), lo (11 + k) (by omega) (by omega), s8 k hk]
  · rw [dn 4 (by decide) (by decide) (by decide) (by decide) (by decide) (by decide), dn 5 (by decide) (by decide) (by decide) (by decide) (by decide) (by decide), dn 6 (by decide) (by decide) (by decide) (by decide) (by decide) (by decide), dn 7 (by decide) (by decide) (by decide) (by decide) (by decide) (by decide), dn 8 (by decide) (by decide) (by decide) (by decide) (by decide) (by decide), dn 9 (by decide) (by decide) (by decide) (by decide) (by decide) (by decide), dn 10 (by decide) (by decide) (by decide) (by decide) (by decide) (by decide)]
    rw [lo (19 + 9 * b' + 0) (by omega) (by omega), lo (19 + 9 * b' + 1) (by omega) (by omega), lo (19 + 9 * b' + 3) (by omega) (by omega), lo (19 + 9 * b' + 4) (by omega) (by omega), lo (19 + 9 * b' + 5) (by omega) (by omega), lo (19 + 9 * b' + 6) (by omega) (by omega), lo (19 + 9 * b' + 7) (by omega) (by omega)]
    exact s9 b' hb
  · rw [dn 12 (by decide) (by decide) (by decide) (by decide) (by decide) (by decide), dn 13 (by decide) (by decide) (by decide) (by decide) (by decide) (by decide), dn 14 (by decide) (by decide) (by decide) (by decide) (by decide) (by decide), dn 15 (by decide) (by decide) (by decide) (by decide) (by decide) (by decide), dn 16 (by decide) (by decide) (by decide) (by decide) (by decide) (by decide)]
    rw [lo (55 + 5 * c + 0) (by omega) (by omega), lo (55 + 5 * c + 1) (by omega) (by omega), lo (55 + 5 * c + 2) (by omega) (by omega), lo (55 + 5 * c + 3) (by omega) (by omega), lo (55 + 5 * c + 4) (by omega) (by omega)]
    exact s10 c hc
  · rw [d18, d19, d20, d21, d22]
    by_cases e : q = C
    · subst e
      rw [u1s, u1s, u1s, u1s, u1s, n0, n1, n2, n3, n4]
      exact ⟨rfl, rfl, rfl, rfl, rfl⟩
    · rw [u1n e, u1n e, u1n e, u1n e, u1n e, hi q 0 (by omega) (by omega), hi q 1 (by omega) (by omega), hi q 2 (by omega) (by omega), hi q 3 (by omega) (by omega), hi q 4 (by omega) (by omega)]
      exact s11 q (by omega)
  · rw [lo 10 (by omega) (by omega), w10]
  · have : ms_cm (ms_addq w C b r tm) (C + 1) = if ms_addq w C b r tm (375 + 6 * C + 3) = 0 then ms_cm (ms_addq w C b r tm) C else ms_cm (ms_addq w C b r tm) C + 1 := rfl
    rw [this, if_pos n3, ms_cm_c (w' := w) (fun q hq => by rw [hi q 3 hq (by omega)]), hKm]
  · have e : q ≠ C := fun z => by
      subst z
      exact hne n3
    rw [hi q 3 (by omega) (by omega)] at hne
    obtain ⟨p, hp, y1, y2⟩ := hi1 q (by omega) hne
    exact ⟨p, hp, by rw [hi q 5 (by omega) (by omega), y1], by rw [d23, y2]⟩
  · obtain ⟨q, hq, y0, y1, y2⟩ := hi2 p hp
    exact ⟨q, by omega, by rw [hi q 3 hq (by omega)]; exact y0, by rw [hi q 5 hq (by omega), y1], by rw [d23, y2]⟩
theorem FR_add {d : Nat → Nat → Nat → Int32} {i C : Nat} {b r tm : Int32} : FR d (mc_addq d i C b r tm) i := by
  unfold mc_addq
  exact FR_t (FR_t (FR_t (FR_t (FR_t (FR_u3 (by decide)) (FR_u3 (by decide))) (FR_u3 (by decide))) (FR_u3 (by decide))) (FR_u3 (by decide))) (FR_u3 (by decide))
theorem SI_ask {w : Nat → Int32} {B R C T τ b r : Nat} (h : SI w B R C T τ) (hC : C < 40) (hb : b < B) (hr : r < R) (hB : B ≤ 4) : SI (ms_come (ms_addq w C (Int32.ofNat b) (Int32.ofNat r) (w 8)) C) B R (C + 1) T τ := by
  obtain ⟨⟨c1, c2, c3⟩, c4, ⟨c5, c5'⟩, ⟨c6, c7, c8, c9⟩, c10, c11, c12, c13⟩ := h
  have hh : ∀ k, k ≠ 9 → k ≠ 10 → k < 375 + 6 * C → ms_come (ms_addq w C (Int32.ofNat b) (Int32.ofNat r) (w 8)) C k = w k := fun k h9 h10 hk => by
    rw [ms_come_hi h10 (by omega) (by omega), ms_addq_n h9 (.inl hk)]
  obtain ⟨n0, n1, -, -, -⟩ := ms_addq_q (w := w) (C := C) (b := Int32.ofNat b) (r := Int32.ofNat r) (tm := w 8)
  have q0 : ms_come (ms_addq w C (Int32.ofNat b) (Int32.ofNat r) (w 8)) C (375 + 6 * C + 0) = Int32.ofNat b := by rw [ms_come_hi (by omega) (by omega) (by omega), n0]
  have q1 : ms_come (ms_addq w C (Int32.ofNat b) (Int32.ofNat r) (w 8)) C (375 + 6 * C + 1) = Int32.ofNat r := by rw [ms_come_hi (by omega) (by omega) (by omega), n1]
  refine ⟨⟨by omega, by omega, fun q a b => ?_⟩, fun q hq => ?_, ⟨?_, c5'⟩, ⟨?_, ?_, ?_, ?_⟩, fun x hx => ?_, fun c hc => ?_, fun x hx => ?_, ?_⟩
  · by_cases e : q = C
    · subst e
      rw [ms_come_s]
      decide
    · rw [hh _ (by omega) (by omega) (by omega)]
      exact c3 q a (by omega)
  · by_cases e : q = C
    · subst e
      exact ⟨⟨b, hb, q0⟩, ⟨r, hr, q1⟩⟩
    · rw [hh _ (by omega) (by omega) (by omega), hh _ (by omega) (by omega) (by omega)]
      exact c4 q (by omega)
  · rw [hh _ (by omega) (by omega) (by omega)]; exact c5
  · rw [hh _ (by omega) (by omega) (by omega)]; exact c6
  · rw [hh _ (by omega) (by omega) (by omega)]; exact c7
  · rw [hh _ (by omega) (by omega) (by omega)]; exact c8
  · exact ⟨by rw [hh _ (by omega) (by omega) (by omega)]; exact c9.1, by rw [hh _ (by omega) (by omega) (by omega)]; exact c9.2⟩
  · rw [hh _ (by omega) (by omega) (by omega)]; exact c10 x hx
  · rw [hh _ (by omega) (by omega) (by omega)]; exact c11 c hc
  · rw [hh _ (by omega) (by omega) (by omega), c12 x hx]
    have e : ms_many (ms_come (ms_addq w C (Int32.ofNat b) (Int32.ofNat r) (w 8)) C) x 2 (C + 1) = ms_many (ms_come (ms_addq w C (Int32.ofNat b) (Int32.ofNat r) (w 8)) C) x 2 C := if_neg (fun z => by
      have := z.1
      rw [ms_come_s] at this
      exact absurd this (by decide))
    rw [e]
    exact congrArg Int32.ofNat (ms_many_c (fun q hq => by rw [hh _ (by omega) (by omega) (by omega), hh _ (by omega) (by omega) (by omega)])).symm
  · rw [hh _ (by omega) (by omega) (by omega)]; exact c13
section EC34
variable {n : Nat} {lk : Nat → Nat → Nat → Bool} {d : Nat → Nat → Nat → Int32} {o : ev_W}
theorem ec_add (hl : LK lk) {i : Nat} (hi : i < 15) {w : Nat → Int32} {C K : Nat} {b r tm : Int32} (hs : CS d i w C K) (hC : C < 40) : EV (47, 0, [ev_R 17 i, ev_I tm, ev_I b, ev_I r], [], 0, 0) (n, lk, d, o) = some (.inl (some (ev_I (Int32.ofNat C))), (n, lk, mc_addq d i C b r tm, o)) := by
  have e := (cs_ct hs).trans (cs_w9 hs)
  refine EV_bk (k := 400) ?_
  rw [bk_47_0, e, if_pos (show Int32.ofNat C < 40 from (ni_lt (b := 40) (by omega) (by omega)).mpr hC)]
  simp only [hl 17 i 2 rfl hi (by decide), hl 17 i 3 rfl hi (by decide), hl 17 i 4 rfl hi (by decide), hl 17 i 5 rfl hi (by decide), hl 17 i 6 rfl hi (by decide), cond_true, ni_in (n := C) (N := 40) (by omega) (by omega), ni_c (n := C) (by omega), ni_1]
  rfl
theorem em_requests (hl : LK lk) {C : Nat} {x y z : Int32} (hC : d 46 0 9 = Int32.ofNat C) (h40 : C < 40) : EV (162, 0, [ev_R 44 0, ev_I x, ev_I y, ev_I z], [], 0, 0) (n, lk, d, o) = some (.inl (some (ev_I (Int32.ofNat C))), (n, lk, ev_w3 d 46 0 (ms_addq (d 46 0) C x y z), o)) := by
  refine EV_bk (k := 400) ?_
  rw [bk_162_0, hl 44 0 2 rfl (by decide) (by decide), cond_true, cond_true, hC, em_setsRequest hl (w := 0) (x := 0) rfl (by omega)]
  simp only [ev_bv]
  rw [em_setsRequest hl (w := 1) (x := 1) rfl (by omega)]
  simp only []
  rw [em_setsRequest hl (w := 2) (x := 2) rfl (by omega)]
  simp only []
  rw [em_setsRequest hl (w := 3) (x := 3) rfl (by omega)]
  simp only []
  rw [em_setsRequest hl (w := 4) (x := 4) rfl (by omega)]
  simp only [ni_1, u3w, w3s, w3w]
  rfl
theorem op_ask (hl : LK lk) (h : GI d) {x y : Int32} : OPH (108, 0, [ev_R 27 0, ev_I x, ev_I y], [], 0, 0) (214, 0, [ev_R 44 0, ev_I x, ev_I y], [], 0, 0) kf_E lk d := by
  obtain ⟨B, R, T, C, τ, c, ⟨g1, g2, g3, g4, hτ, hc10, hu⟩, hrem⟩ := ec_remG hl h
  obtain ⟨⟨K, hs⟩, hI⟩ := id g4
  obtain ⟨⟨t0, t1, b1, b4, r1, r16⟩, -⟩ := id g1
  have hB := g2.1.trans t0
  have hR := g2.2.1.trans t1
  have h40 := cs_C hs
  by_cases zb : (0 ≤ x ∧ x < Int32.ofNat B) ∧ (0 ≤ y ∧ y < Int32.ofNat R)
  · obtain ⟨b, hb, ex⟩ := ni_of (by omega) zb.1.1 zb.1.2
    obtain ⟨r, hr, ey⟩ := ni_of (by omega) zb.2.1 zb.2.2
    subst ex
    subst ey
    by_cases zc : C < 40
    · intro n o hn
      obtain ⟨d1, e1, s1, w1, sc1, ⟨q44, q45, q46, q24, qs⟩, fin⟩ := hrem n o
      obtain ⟨⟨K1, h1⟩, hI1⟩ := s1
      have ha := CS_add (b := Int32.ofNat b) (r := Int32.ofNat r) (tm := d 46 0 8) h1 zc
      have e2 := ec_add (n := n) (o := o) (b := Int32.ofNat b) (r := Int32.ofNat r) (tm := d 46 0 8) hl (i := 1) (by decide) h1 zc
      have n3 := (ms_addq_q (w := d 46 0) (C := C) (b := Int32.ofNat b) (r := Int32.ofNat r) (tm := d 46 0 8)).2.2.2.1
      have e3 := ec_come (n := n) (o := o) hl (i := 1) (by decide) ha (q := C) (by omega)
      rw [if_pos n3] at e3
      have s3 := CS_come ha (q := C) (by omega) n3
      have fr : FR d1 (mc_come (mc_addq d1 1 C (Int32.ofNat b) (Int32.ofNat r) (d 46 0 8)) 1 C K1) 1 := FR_t FR_add FR_come
      generalize hd2 : mc_come (mc_addq d1 1 C (Int32.ofNat b) (Int32.ofNat r) (d 46 0 8)) 1 C K1 = d2 at *
      have p44 : d2 44 = d1 44 := funext fun j => fr 44 j (.inl (by omega))
      have p45 : d2 45 = d1 45 := funext fun j => fr 45 j (.inl (by omega))
      have p46 : d2 46 = d1 46 := funext fun j => fr 46 j (.inl (by omega))
      have sg : GS d2 1 (ms_come (ms_addq (d 46 0) C (Int32.ofNat b) (Int32.ofNat r) (d 46 0 8)) C) B R (C + 1) T τ := ⟨⟨_, s3⟩, SI_ask hI zc hb hr b4⟩
      obtain ⟨d3, e4, kp⟩ := em_keeps (n := n) (o := o) (d := ev_u3 d2 44 0 0 0) hl (c := c) (by rw [u3x (by decide), p44, q44]; exact hu) hc10
      have c46 : d3 46 = d 46 := by rw [kp.1 46 (by decide) (by decide), u3n (by decide), p46, q46]
      obtain ⟨f1, f2, f3, f4⟩ := fin d2 d3 (ev_w3 d3 46 0 (ms_come (ms_addq (d 46 0) C (Int32.ofNat b) (Int32.ofNat r) (d 46 0 8)) C)) _ (C + 1) τ (FR_FT fr) sg hτ kp (fun r h1 h2 => w3n h1) (fun j hj => by rw [w3s])
      refine .inl ⟨Int32.ofNat C, d2, _, f3, f1, f2, f4, ?_, ?_⟩
      · refine EV_bk (k := 400) ?_
        rw [bk_108_0, ec_reqRow hl hn hB hR, if_pos zb]
        simp only [ev_bv, hl 27 0 4 rfl (by decide) (by decide), hl 27 0 6 rfl (by decide) (by decide), show lk 0 1 8 = true from hl 0 1 8 rfl (by decide) (by decide), cond_true]
        rw [if_pos (show d 17 1 0 < 40 by rw [cs_ct hs, cs_w9 hs]; exact (ni_lt (b := 40) (by omega) (by omega)).mpr zc), e1]
        simp only [hl 27 0 4 rfl (by decide) (by decide), show lk 0 1 8 = true from hl 0 1 8 rfl (by decide) (by decide), cond_true]
        rw [cs_tm h1, e2]
        simp only [ev_bi, hl 27 0 4 rfl (by decide) (by decide), show lk 0 1 8 = true from hl 0 1 8 rfl (by decide) (by decide), cond_true]
        rw [e3]
      · refine EV_bk (k := 400) ?_
        rw [bk_214_0, em_noRow hl (B := B) (R := R) (by rw [p45, q45, t0]) b4 (by rw [p45, q45, t1]) r16, if_pos zb]
        simp only [ev_bi, ↓reduceIte, hl 44 0 2 rfl (by decide) (by decide), cond_true]
        rw [if_neg (show ¬ ev_u3 d2 44 0 0 0 46 0 9 = 40 by
          rw [u3n (by decide), p46, q46, cs_w9 hs]
          intro v
          have := (ni_eq (b := 40) (by omega) (by omega)).mp v
          omega), em_throws0 u3s]
        simp only [↓reduceIte]
        rw [e4]
        simp only [ev_bv, hl 44 0 2 rfl (by decide) (by decide), cond_true]
        rw [em_requests hl (C := C) (by rw [c46]; exact cs_w9 hs) zc, c46]
        simp only []
        rw [em_comes hl (by omega), w3s, w3w]
    · have zc' : C = 40 := by omega
      refine OPH_no (E := 2) (v := 0) h (GF_thrown (v := 2)) (by decide) (by decide) u3s (fun n o hn => ?_) (fun n o => ?_)
      · refine EV_bk (k := 400) ?_
        rw [bk_108_0, ec_reqRow hl hn hB hR, if_pos zb]
        simp only [ev_bv, hl 27 0 4 rfl (by decide) (by decide), show lk 0 1 8 = true from hl 0 1 8 rfl (by decide) (by decide), cond_true]
        rw [if_neg (show ¬ d 17 1 0 < 40 by
          rw [cs_ct hs, cs_w9 hs]
          intro v
          have := (ni_lt (b := 40) (by omega) (by omega)).mp v
          omega), Nat.ble_eq.mpr hn, cond_true]
      · refine EV_bk (k := 400) ?_
        rw [bk_214_0, em_noRow hl t0 b4 t1 r16, if_pos zb]
        simp only [ev_bi, ↓reduceIte, hl 44 0 2 rfl (by decide) (by decide), cond_true]
        rw [if_pos (show ev_u3 d 44 0 0 0 46 0 9 = 40 by rw [u3n (by decide), cs_w9 hs, zc']; rfl), em_throws1 u3s (by decide), u3u]
        simp (decide := true) only [↓reduceIte]
  · refine OPH_no (E := 1) (v := 0) h (GF_thrown (v := 1)) (by decide) (by decide) u3s (fun n o hn => ?_) (fun n o => ?_)
    · refine EV_bk (k := 400) ?_
      rw [bk_108_0, ec_reqRow hl hn hB hR, if_neg zb]
      rfl
    · refine EV_bk (k := 400) ?_
      rw [bk_214_0, em_noRow hl t0 b4 t1 r16, if_neg zb]
      simp (decide := true) only [ev_bi, ↓reduceIte]
end EC34
