/-! THE PROGRAM AGAINST THE REFERENCE, 44: trade -/
section EC33
variable {n : Nat} {lk : Nat → Nat → Nat → Bool} {d : Nat → Nat → Nat → Int32} {o : ev_W}
theorem op_trade (hl : LK lk) (h : GI d) {x y : Int32} : OPH (109, 0, [ev_R 27 0, ev_I x, ev_I y], [], 0, 0) (215, 0, [ev_R 44 0, ev_I x, ev_I y], [], 0, 0) kf_F lk d := by
  obtain ⟨B, R, T, C, τ, c, ⟨g1, g2, g3, g4, hτ, hc10, hu⟩, hrem⟩ := ec_remG hl h
  obtain ⟨⟨K, hs⟩, hI⟩ := id g4
  obtain ⟨⟨t0, t1, b1, b4, r1, r16⟩, -⟩ := id g1
  have hB := g2.1.trans t0
  by_cases zx : 0 ≤ x ∧ x < Int32.ofNat B
  · obtain ⟨b, hb, ex⟩ := ni_of (by omega) zx.1 zx.2
    subst ex
    by_cases zy : 0 ≤ y ∧ y < Int32.ofNat B
    · obtain ⟨k, hk, ey⟩ := ni_of (by omega) zy.1 zy.2
      subst ey
      have m194 : ∀ n o (d' : Nat → Nat → Nat → Int32), d' 45 0 0 = Int32.ofNat B → EV (194, 0, [ev_R 44 0, ev_I (Int32.ofNat b)], [], 0, 0) (n, lk, d', o) = some (.inl (some (ev_I 0)), (n, lk, ev_u3 d' 44 0 0 0, o)) := fun n o d' h' => by
        rw [em_noBank hl h' b4, if_pos zx]
      have m193 : ∀ n o (d' : Nat → Nat → Nat → Int32), d' 45 0 0 = Int32.ofNat B → EV (193, 0, [ev_R 44 0, ev_I (Int32.ofNat k), ev_I (ev_u3 d' 44 0 0 0 45 0 0)], [], 0, 0) (n, lk, ev_u3 d' 44 0 0 0, o) = some (.inl (some (ev_I 0)), (n, lk, ev_u3 d' 44 0 0 0, o)) := fun n o d' h' => by
        rw [u3n (r' := 45) (by decide), h', em_no (by omega) u3s, if_pos zy]
      have c115b : ∀ n o, 384 ≤ n → EV (115, 0, [ev_R 27 0, ev_I (Int32.ofNat b)], [], 0, 0) (n, lk, d, o) = some (.inl none, (n, lk, d, o)) := fun n o hn => by rw [ec_reqBank hl hn hB, if_pos zx]
      have c115k : ∀ n o, 384 ≤ n → EV (115, 0, [ev_R 27 0, ev_I (Int32.ofNat k)], [], 0, 0) (n, lk, d, o) = some (.inl none, (n, lk, d, o)) := fun n o hn => by rw [ec_reqBank hl hn hB, if_pos zy]
      by_cases e : b = k
      · have e' : Int32.ofNat b = Int32.ofNat k := by rw [e]
        refine OPH_no (E := 0) (v := 0) h (GF_thrown (v := 2)) (by decide) (by decide) u3s (fun n o hn => ?_) (fun n o => ?_)
        · refine EV_bk (k := 400) ?_
          rw [bk_109_0, c115b n o hn]
          simp only [ev_bv]
          rw [c115k n o hn]
          simp only []
          rw [if_pos e', Nat.ble_eq.mpr hn, cond_true]
        · refine EV_bk (k := 400) ?_
          rw [bk_215_0, m194 n o d t0]
          simp only [ev_bi, ↓reduceIte, hl 44 0 1 rfl (by decide) (by decide), cond_true]
          rw [m193 n o d t0]
          simp only [↓reduceIte]
          rw [if_pos e', em_throws1 u3s (by decide), u3u]
          simp (decide := true) only [↓reduceIte]
      · have e' : ¬ Int32.ofNat b = Int32.ofNat k := fun v => e ((ni_eq (by omega) (by omega)).mp v)
        have hcan : (¬ d 1 1 3 ≤ d 5 1 k ∧ d 4 1 k < d 1 1 1) ↔ ms_can (d 46 0) k := by rw [ec_hot_ms hs (by omega), cs_4 hs (by omega), cs_1 hs (k := 1) (by decide)]
        by_cases zc : ms_can (d 46 0) k
        · have cT : ∀ n o, EV (65, 0, [ev_R 0 1, ev_I (Int32.ofNat k)], [], 0, 0) (n, lk, d, o) = some (.inl (some (ev_I 1)), (n, lk, d, o)) := fun n o => by
            rw [ec_canTake hl (i := 1) (by decide) (by omega), if_pos (hcan.mpr zc)]
          have mT : ∀ n o (d' : Nat → Nat → Nat → Int32), d' 46 = d 46 → EV (172, 0, [ev_R 44 0, ev_I (Int32.ofNat k)], [], 0, 0) (n, lk, d', o) = some (.inl (some (ev_I 1)), (n, lk, d', o)) := fun n o d' h' => by
            rw [em_canTake hl (by omega), h', if_pos zc]
          by_cases zd : -(d 46 0 2) < d 46 0 (19 + 9 * b + 0)
          · intro n o hn
            obtain ⟨d1, e1, s1, w1, sc1, ⟨q44, q45, q46, q24, qs⟩, fin⟩ := hrem n o
            obtain ⟨⟨K1, h1⟩, hI1⟩ := s1
            obtain ⟨d2, e2, fr, s2⟩ := ec_move (n := n) (o := o) hl (i := 1) (by decide) (b := b) (k := k) h1 (by omega) (by omega)
            have p44 : d2 44 = d1 44 := funext fun j => fr 44 j (.inl (by omega))
            have p45 : d2 45 = d1 45 := funext fun j => fr 45 j (.inl (by omega))
            have p46 : d2 46 = d1 46 := funext fun j => fr 46 j (.inl (by omega))
            have sg : GS d2 1 (ms_moves (d 46 0) b k) B R C T τ := ⟨⟨K1, s2⟩, SI_moves hI (by omega) (by omega) zd zc.2⟩
            obtain ⟨d3, e3, kp⟩ := em_keeps (n := n) (o := o) (d := ev_u3 d2 44 0 0 0) hl (c := c) (by rw [u3x (by decide), p44, q44]; exact hu) hc10
            have c46 : d3 46 = d 46 := by rw [kp.1 46 (by decide) (by decide), u3n (by decide), p46, q46]
            obtain ⟨f1, f2, f3, f4⟩ := fin d2 d3 (ev_w3 d3 46 0 (ms_moves (d 46 0) b k)) _ C τ (FR_FT fr) sg hτ kp (fun r h1 h2 => w3n h1) (fun j hj => by rw [w3s])
            refine .inl ⟨ms_moves (d 46 0) b k (19 + 9 * k + 0), d2, ev_w3 d3 46 0 (ms_moves (d 46 0) b k), f3, f1, f2, f4, ?_, ?_⟩
            · refine EV_bk (k := 400) ?_
              rw [bk_109_0, c115b n o hn]
              simp only [ev_bv]
              rw [c115k n o hn]
              simp only []
              rw [if_neg e', hl 27 0 4 rfl (by decide) (by decide), cond_true, cT n o]
              simp (decide := true) only [ev_bi, ↓reduceIte, hl 27 0 4 rfl (by decide) (by decide), show lk 0 1 6 = true from hl 0 1 6 rfl (by decide) (by decide), show lk 3 1 0 = true from hl 3 1 0 rfl (by decide) (by decide), show lk 0 1 4 = true from hl 0 1 4 rfl (by decide) (by decide), cond_true, ni_in (n := b) (N := 4) (by omega) (by omega), ni_c (n := b) (by omega), ni_in (n := k) (N := 4) (by omega) (by omega), ni_c (n := k) (by omega)]
              rw [cs_4 hs (by omega), cs_1 hs (k := 2) (by decide), if_neg (Int32.not_le.mpr zd)]
              simp only [hl 27 0 6 rfl (by decide) (by decide), cond_true]
              rw [e1]
              simp only [hl 27 0 4 rfl (by decide) (by decide), cond_true]
              rw [e2]
              simp only [hl 27 0 4 rfl (by decide) (by decide), cond_true]
              rw [cs_4 s2 (by omega), show lk 0 1 6 = true from hl 0 1 6 rfl (by decide) (by decide), show lk 3 1 0 = true from hl 3 1 0 rfl (by decide) (by decide), cond_true, cond_true]
            · refine EV_bk (k := 400) ?_
              rw [bk_215_0, m194 n _ d2 (by rw [p45, q45]; exact t0)]
              simp only [ev_bi, ↓reduceIte, hl 44 0 1 rfl (by decide) (by decide), cond_true]
              rw [m193 n _ d2 (by rw [p45, q45]; exact t0)]
              simp only [↓reduceIte]
              rw [if_neg e', em_throws0 u3s]
              simp only [↓reduceIte]
              rw [mT n _ _ (by rw [u3n (by decide), p46, q46])]
              simp (decide := true) only [↓reduceIte]
              rw [em_of hl (w := 0) (x := 0) rfl (by omega)]
              simp only [hl 44 0 2 rfl (by decide) (by decide), cond_true]
              rw [if_neg (show ¬ ev_u3 d2 44 0 0 0 46 0 (19 + 9 * b + 0) ≤ -(ev_u3 d2 44 0 0 0 46 0 2) by rw [u3n (by decide), p46, q46]; exact Int32.not_le.mpr zd), em_throws0 u3s]
              simp only [↓reduceIte]
              rw [e3]
              simp only [ev_bv]
              rw [em_moves hl (by omega) (by omega), c46]
              simp only []
              rw [em_of hl (w := 0) (x := 0) rfl (by omega), w3s]
          · refine OPH_no (E := 2) (v := 0) h (GF_thrown (v := 3)) (by decide) (by decide) u3s (fun n o hn => ?_) (fun n o => ?_)
            · refine EV_bk (k := 400) ?_
              rw [bk_109_0, c115b n o hn]
              simp only [ev_bv]
              rw [c115k n o hn]
              simp only []
              rw [if_neg e', hl 27 0 4 rfl (by decide) (by decide), cond_true, cT n o]
              simp (decide := true) only [ev_bi, ↓reduceIte, hl 27 0 4 rfl (by decide) (by decide), show lk 0 1 6 = true from hl 0 1 6 rfl (by decide) (by decide), show lk 3 1 0 = true from hl 3 1 0 rfl (by decide) (by decide), show lk 0 1 4 = true from hl 0 1 4 rfl (by decide) (by decide), cond_true, ni_in (n := b) (N := 4) (by omega) (by omega), ni_c (n := b) (by omega), ni_in (n := k) (N := 4) (by omega) (by omega), ni_c (n := k) (by omega)]
              rw [cs_4 hs (by omega), cs_1 hs (k := 2) (by decide), if_pos (Int32.not_lt.mp zd), Nat.ble_eq.mpr hn, cond_true]
            · refine EV_bk (k := 400) ?_
              rw [bk_215_0, m194 n o d t0]
              simp only [ev_bi, ↓reduceIte, hl 44 0 1 rfl (by decide) (by decide), cond_true]
              rw [m193 n o d t0]
              simp only [↓reduceIte]
              rw [if_neg e', em_throws0 u3s]
              simp only [↓reduceIte]
              rw [mT n o _ (by rw [u3n (by decide)])]
              simp (decide := true) only [↓reduceIte]
              rw [em_of hl (w := 0) (x := 0) rfl (by omega)]
              simp only [hl 44 0 2 rfl (by decide) (by decide), cond_true]
              rw [if_pos (show ev_u3 d 44 0 0 0 46 0 (19 + 9 * b + 0) ≤ -(ev_u3 d 44 0 0 0 46 0 2) by rw [u3n (by decide)]; exact Int32.not_lt.mp zd), em_throws1 u3s (by decide), u3u]
              simp (decide := true) only [↓reduceIte]
        · refine OPH_no (E := 2) (v := 0) h (GF_thrown (v := 3)) (by decide) (by decide) u3s (fun n o hn => ?_) (fun n o => ?_)
          · refine EV_bk (k := 400) ?_
            rw [bk_109_0, c115b n o hn]
            simp only [ev_bv]
            rw [c115k n o hn]
            simp only []
            rw [if_neg e', hl 27 0 4 rfl (by decide) (by decide), cond_true, ec_canTake hl (i := 1) (by decide) (by omega), if_neg (fun v => zc (hcan.mp v))]
            simp only [ev_bi, ↓reduceIte]
            rw [Nat.ble_eq.mpr hn, cond_true]
          · refine EV_bk (k := 400) ?_
            rw [bk_215_0, m194 n o d t0]
            simp only [ev_bi, ↓reduceIte, hl 44 0 1 rfl (by decide) (by decide), cond_true]
            rw [m193 n o d t0]
            simp only [↓reduceIte]
            rw [if_neg e', em_throws0 u3s]
            simp only [↓reduceIte]
            rw [em_canTake hl (by omega), u3n (by decide), if_neg zc]
            simp only [↓reduceIte]
            rw [em_throws1 u3s (by decide), u3u]
            simp (decide := true) only [↓reduceIte]
    · refine OPH_no (E := 1) (v := 0) h (GF_thrown (v := 1)) (by decide) (by decide) u3s (fun n o hn => ?_) (fun n o => ?_)
      · refine EV_bk (k := 400) ?_
        rw [bk_109_0, ec_reqBank hl hn hB, if_pos zx]
        simp only [ev_bv]
        rw [ec_reqBank hl hn hB, if_neg zy]
        rfl
      · refine EV_bk (k := 400) ?_
        rw [bk_215_0, em_noBank hl t0 b4, if_pos zx]
        simp only [ev_bi, ↓reduceIte, hl 44 0 1 rfl (by decide) (by decide), cond_true]
        rw [u3n (by decide), t0, em_no (by omega) u3s, if_neg zy, u3u]
        simp (decide := true) only [↓reduceIte]
  · refine OPH_no (E := 1) (v := 0) h (GF_thrown (v := 1)) (by decide) (by decide) u3s (fun n o hn => ?_) (fun n o => ?_)
    · refine EV_bk (k := 400) ?_
      rw [bk_109_0, ec_reqBank hl hn hB, if_neg zx]
      rfl
    · refine EV_bk (k := 400) ?_
      rw [bk_215_0, em_noBank hl t0 b4, if_neg zx]
      simp (decide := true) only [ev_bi, ↓reduceIte]
end EC33
