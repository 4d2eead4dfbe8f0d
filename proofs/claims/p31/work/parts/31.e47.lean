/-! THE PROGRAM AGAINST THE REFERENCE, 33: calls that look, 4 -/
section EC22
variable {n : Nat} {lk : Nat → Nat → Nat → Bool} {d : Nat → Nat → Nat → Int32} {o : ev_W}
theorem op_row (hl : LK lk) (h : GI d) {x y z : Int32} : OPH (93, 0, [ev_R 27 0, ev_I x, ev_I y, ev_I z], [], 0, 0) (198, 0, [ev_R 44 0, ev_I x, ev_I y, ev_I z], [], 0, 0) kf_B lk d := by
  obtain ⟨B, R, T, g1, g2, -, ⟨C, τ, -, ⟨K, hs⟩, hI⟩, -⟩ := id h
  obtain ⟨⟨t0, t1, b1, b4, r1, r16⟩, -⟩ := id g1
  have hB := g2.1.trans t0
  have hR := g2.2.1.trans t1
  by_cases zb : (0 ≤ x ∧ x < Int32.ofNat B) ∧ (0 ≤ y ∧ y < Int32.ofNat R)
  · obtain ⟨b, hb, ex⟩ := ni_of (by omega) zb.1.1 zb.1.2
    obtain ⟨r, hr, ey⟩ := ni_of (by omega) zb.2.1 zb.2.2
    subst ex
    subst ey
    have hc : 16 * b + r < 64 := by omega
    have hbm := mc_ms_bound (b := b) (r := r) g2 hs (by omega) (by omega)
    by_cases zk : 0 ≤ z ∧ z ≤ 8
    · obtain ⟨k, hk, ez⟩ := ni_of2 8 (by omega) zk.1 zk.2
      subst ez
      match k, hk, zk with
      | 0, _, zk =>
        refine OPH_ok (v := d 46 0 (55 + 5 * (16 * b + r) + 0)) h (GF_r d) (GF_thrown (v := 0)) u3s (fun n o hn => ?_) (fun n o => ?_)
        · refine EV_bk (k := 400) ?_
          rw [bk_93_0, ec_reqRow hl hn hB hR, if_pos zb]
          simp only [ev_bv]
          rw [ec_cellOf]
          simp (decide := true) only [ev_bi, ↓reduceIte, hl 27 0 4 rfl (by decide) (by decide), show lk 0 1 7 = true from hl 0 1 7 rfl (by decide) (by decide), show lk 11 1 0 = true from hl 11 1 0 rfl (by decide) (by decide), cond_true, ni_in (n := 16 * b + r) (N := 64) (by omega) (by omega), ni_c (n := 16 * b + r) (by omega), cs_12 hs hc]
        · refine EV_bk (k := 400) ?_
          rw [bk_198_0, em_noRow hl t0 b4 t1 r16, if_pos zb]
          simp (decide := true) only [ev_bi, ↓reduceIte]
          rw [em_in zk]
          simp (decide := true) only [↓reduceIte]
          rw [em_throws0 u3s]
          simp (decide := true) only [↓reduceIte]
          rw [em_ofRow hl (w := 0) (x := 0) rfl (by omega), u3n (by decide)]
      | 1, _, zk =>
        refine OPH_ok (v := ms_bound (d 45 0) (d 46 0) b r) h (GF_r d) (GF_thrown (v := 0)) u3s (fun n o hn => ?_) (fun n o => ?_)
        · refine EV_bk (k := 400) ?_
          rw [bk_93_0, ec_reqRow hl hn hB hR, if_pos zb]
          simp only [ev_bv]
          rw [ec_cellOf]
          simp (decide := true) only [ev_bi, ↓reduceIte, hl 27 0 3 rfl (by decide) (by decide), hl 27 0 4 rfl (by decide) (by decide), cond_true]
          rw [ec_boundOf (d := d) hl (i := 1) (l := 1) (by decide) (by decide) (b := b) (r := r) (by omega) (by omega), hbm]
        · refine EV_bk (k := 400) ?_
          rw [bk_198_0, em_noRow hl t0 b4 t1 r16, if_pos zb]
          simp (decide := true) only [ev_bi, ↓reduceIte]
          rw [em_in zk]
          simp (decide := true) only [↓reduceIte]
          rw [em_throws0 u3s]
          simp (decide := true) only [↓reduceIte]
          rw [em_isHot hl (by omega)]
          simp only []
          rw [em_boundOf hl (by omega) (by omega), u3n (r' := 46) (by decide), u3n (r' := 45) (by decide)]
          unfold ms_bound
          by_cases hh : ms_hot (d 46 0) b
          · simp only [if_pos hh]
            rw [if_neg (by decide)]
          · simp only [if_neg hh]
            rw [if_pos trivial]
      | 2, _, zk =>
        refine OPH_ok (v := ms_rem (d 45 0) (d 46 0) b r) h (GF_r d) (GF_thrown (v := 0)) u3s (fun n o hn => ?_) (fun n o => ?_)
        · refine EV_bk (k := 400) ?_
          rw [bk_93_0, ec_reqRow hl hn hB hR, if_pos zb]
          simp only [ev_bv]
          rw [ec_cellOf]
          simp (decide := true) only [ev_bi, ↓reduceIte, hl 27 0 3 rfl (by decide) (by decide), hl 27 0 4 rfl (by decide) (by decide), cond_true]
          rw [ec_boundOf (d := d) hl (i := 1) (l := 1) (by decide) (by decide) (b := b) (r := r) (by omega) (by omega), hbm]
          simp only [hl 27 0 4 rfl (by decide) (by decide), show lk 0 1 7 = true from hl 0 1 7 rfl (by decide) (by decide), show lk 11 1 0 = true from hl 11 1 0 rfl (by decide) (by decide), cond_true, ni_in (n := 16 * b + r) (N := 64) (by omega) (by omega), ni_c (n := 16 * b + r) (by omega), cs_12 hs hc]
          rfl
        · refine EV_bk (k := 400) ?_
          rw [bk_198_0, em_noRow hl t0 b4 t1 r16, if_pos zb]
          simp (decide := true) only [ev_bi, ↓reduceIte]
          rw [em_in zk]
          simp (decide := true) only [↓reduceIte]
          rw [em_throws0 u3s]
          simp (decide := true) only [↓reduceIte]
          rw [em_remains hl (by omega) (by omega), u3n (r' := 46) (by decide), u3n (r' := 45) (by decide)]
      | 3, _, zk =>
        refine OPH_ok (v := d 46 0 (55 + 5 * (16 * b + r) + 1)) h (GF_r d) (GF_thrown (v := 0)) u3s (fun n o hn => ?_) (fun n o => ?_)
        · refine EV_bk (k := 400) ?_
          rw [bk_93_0, ec_reqRow hl hn hB hR, if_pos zb]
          simp only [ev_bv]
          rw [ec_cellOf]
          simp (decide := true) only [ev_bi, ↓reduceIte, hl 27 0 4 rfl (by decide) (by decide), show lk 0 1 7 = true from hl 0 1 7 rfl (by decide) (by decide), show lk 11 1 1 = true from hl 11 1 1 rfl (by decide) (by decide), cond_true, ni_in (n := 16 * b + r) (N := 64) (by omega) (by omega), ni_c (n := 16 * b + r) (by omega), cs_13 hs hc]
        · refine EV_bk (k := 400) ?_
          rw [bk_198_0, em_noRow hl t0 b4 t1 r16, if_pos zb]
          simp (decide := true) only [ev_bi, ↓reduceIte]
          rw [em_in zk]
          simp (decide := true) only [↓reduceIte]
          rw [em_throws0 u3s]
          simp (decide := true) only [↓reduceIte]
          rw [em_ofRow hl (w := 1) (x := Int32.ofNat 3 - 2) (by decide) (by omega), u3n (by decide)]
      | 4, _, zk =>
        refine OPH_ok (v := d 46 0 (55 + 5 * (16 * b + r) + 2)) h (GF_r d) (GF_thrown (v := 0)) u3s (fun n o hn => ?_) (fun n o => ?_)
        · refine EV_bk (k := 400) ?_
          rw [bk_93_0, ec_reqRow hl hn hB hR, if_pos zb]
          simp only [ev_bv]
          rw [ec_cellOf]
          simp (decide := true) only [ev_bi, ↓reduceIte, hl 27 0 4 rfl (by decide) (by decide), show lk 0 1 7 = true from hl 0 1 7 rfl (by decide) (by decide), show lk 11 1 2 = true from hl 11 1 2 rfl (by decide) (by decide), cond_true, ni_in (n := 16 * b + r) (N := 64) (by omega) (by omega), ni_c (n := 16 * b + r) (by omega), cs_14 hs hc]
        · refine EV_bk (k := 400) ?_
          rw [bk_198_0, em_noRow hl t0 b4 t1 r16, if_pos zb]
          simp (decide := true) only [ev_bi, ↓reduceIte]
          rw [em_in zk]
          simp (decide := true) only [↓reduceIte]
          rw [em_throws0 u3s]
          simp (decide := true) only [↓reduceIte]
          rw [em_ofRow hl (w := 2) (x := Int32.ofNat 4 - 2) (by decide) (by omega), u3n (by decide)]
      | 5, _, zk =>
        refine OPH_ok (v := d 46 0 (55 + 5 * (16 * b + r) + 3)) h (GF_r d) (GF_thrown (v := 0)) u3s (fun n o hn => ?_) (fun n o => ?_)
        · refine EV_bk (k := 400) ?_
          rw [bk_93_0, ec_reqRow hl hn hB hR, if_pos zb]
          simp only [ev_bv]
          rw [ec_cellOf]
          simp (decide := true) only [ev_bi, ↓reduceIte, hl 27 0 4 rfl (by decide) (by decide), show lk 0 1 7 = true from hl 0 1 7 rfl (by decide) (by decide), show lk 11 1 3 = true from hl 11 1 3 rfl (by decide) (by decide), cond_true, ni_in (n := 16 * b + r) (N := 64) (by omega) (by omega), ni_c (n := 16 * b + r) (by omega), cs_15 hs hc]
        · refine EV_bk (k := 400) ?_
          rw [bk_198_0, em_noRow hl t0 b4 t1 r16, if_pos zb]
          simp (decide := true) only [ev_bi, ↓reduceIte]
          rw [em_in zk]
          simp (decide := true) only [↓reduceIte]
          rw [em_throws0 u3s]
          simp (decide := true) only [↓reduceIte]
          rw [em_ofRow hl (w := 3) (x := Int32.ofNat 5 - 2) (by decide) (by omega), u3n (by decide)]
      | 6, _, zk =>
        refine OPH_ok (v := d 46 0 (55 + 5 * (16 * b + r) + 4)) h (GF_r d) (GF_thrown (v := 0)) u3s (fun n o hn => ?_) (fun n o => ?_)
        · refine EV_bk (k := 400) ?_
          rw [bk_93_0, ec_reqRow hl hn hB hR, if_pos zb]
          simp only [ev_bv]
          rw [ec_cellOf]
          simp (decide := true) only [ev_bi, ↓reduceIte, hl 27 0 4 rfl (by decide) (by decide), show lk 0 1 7 = true from hl 0 1 7 rfl (by decide) (by decide), show lk 11 1 4 = true from hl 11 1 4 rfl (by decide) (by decide), cond_true, ni_in (n := 16 * b + r) (N := 64) (by omega) (by omega), ni_c (n := 16 * b + r) (by omega), cs_16 hs hc]
        · refine EV_bk (k := 400) ?_
          rw [bk_198_0, em_noRow hl t0 b4 t1 r16, if_pos zb]
          simp (decide := true) only [ev_bi, ↓reduceIte]
          rw [em_in zk]
          simp (decide := true) only [↓reduceIte]
          rw [em_throws0 u3s]
          simp (decide := true) only [↓reduceIte]
          rw [em_ofRow hl (w := 4) (x := Int32.ofNat 6 - 2) (by decide) (by omega), u3n (by decide)]
      | 7, _, zk =>
        refine OPH_ok (v := d 25 1 (16 * b + r)) h (GF_r d) (GF_thrown (v := 0)) u3s (fun n o hn => ?_) (fun n o => ?_)
        · refine EV_bk (k := 400) ?_
          rw [bk_93_0, ec_reqRow hl hn hB hR, if_pos zb]
          simp only [ev_bv]
          rw [ec_cellOf]
          simp (decide := true) only [ev_bi, ↓reduceIte, hl 27 0 3 rfl (by decide) (by decide), show lk 24 1 5 = true from hl 24 1 5 rfl (by decide) (by decide), cond_true, ni_in (n := 16 * b + r) (N := 64) (by omega) (by omega), ni_c (n := 16 * b + r) (by omega)]
        · refine EV_bk (k := 400) ?_
          rw [bk_198_0, em_noRow hl t0 b4 t1 r16, if_pos zb]
          simp (decide := true) only [ev_bi, ↓reduceIte]
          rw [em_in zk]
          simp (decide := true) only [↓reduceIte]
          rw [em_throws0 u3s]
          have e1 : ((4 : Int32) + ((2 : Int32) * (((16 : Int32) * Int32.ofNat b) + Int32.ofNat r))) = Int32.ofNat (4 + 2 * (16 * b + r)) := ni_K b r
          simp (decide := true) only [↓reduceIte, hl 44 0 1 rfl (by decide) (by decide), cond_true, e1, ni_in (n := 4 + 2 * (16 * b + r)) (N := 132) (by omega) (by omega), ni_c (n := 4 + 2 * (16 * b + r)) (by omega)]
          rw [u3n (by decide)]
          rcases g2.2.2.2.2 (16 * b + r) hc with ⟨w1, w2, w3⟩ | ⟨w1, w2, w3⟩
          · rw [if_pos (by rw [w3]; decide), w1]
          · rw [if_neg (Int32.not_le.mpr w3), w1]
      | 8, _, zk =>
        refine OPH_ok (v := d 26 1 (16 * b + r)) h (GF_r d) (GF_thrown (v := 0)) u3s (fun n o hn => ?_) (fun n o => ?_)
        · refine EV_bk (k := 400) ?_
          rw [bk_93_0, ec_reqRow hl hn hB hR, if_pos zb]
          simp only [ev_bv]
          rw [ec_cellOf]
          simp (decide := true) only [ev_bi, ↓reduceIte, hl 27 0 3 rfl (by decide) (by decide), show lk 24 1 6 = true from hl 24 1 6 rfl (by decide) (by decide), cond_true, ni_in (n := 16 * b + r) (N := 64) (by omega) (by omega), ni_c (n := 16 * b + r) (by omega)]
        · refine EV_bk (k := 400) ?_
          rw [bk_198_0, em_noRow hl t0 b4 t1 r16, if_pos zb]
          simp (decide := true) only [ev_bi, ↓reduceIte]
          rw [em_in zk]
          simp (decide := true) only [↓reduceIte]
          rw [em_throws0 u3s]
          have e1 : ((4 : Int32) + ((2 : Int32) * (((16 : Int32) * Int32.ofNat b) + Int32.ofNat r))) = Int32.ofNat (4 + 2 * (16 * b + r)) := ni_K b r
          have e2 : Int32.ofNat (4 + 2 * (16 * b + r)) + 1 = Int32.ofNat (4 + 2 * (16 * b + r) + 1) := ni_1 _
          simp (decide := true) only [↓reduceIte, hl 44 0 1 rfl (by decide) (by decide), cond_true, e1, e2, ni_in (n := 4 + 2 * (16 * b + r)) (N := 132) (by omega) (by omega), ni_c (n := 4 + 2 * (16 * b + r)) (by omega), ni_in (n := 4 + 2 * (16 * b + r) + 1) (N := 132) (by omega) (by omega), ni_c (n := 4 + 2 * (16 * b + r) + 1) (by omega)]
          rw [u3n (by decide)]
          rcases g2.2.2.2.2 (16 * b + r) hc with ⟨w1, w2, w3⟩ | ⟨w1, w2, w3⟩
          · rw [if_pos (by rw [w3]; decide), w2]
          · rw [if_neg (Int32.not_le.mpr w3), w2]
    · refine OPH_no (E := 0) (v := 0) h (GF_thrown (v := 2)) (by decide) (by decide) u3s (fun n o hn => ?_) (fun n o => ?_)
      · refine EV_bk (k := 400) ?_
        have ne := ni_out (m := 8) (by omega) zk
        rw [bk_93_0, ec_reqRow hl hn hB hR, if_pos zb]
        simp only [ev_bv]
        rw [ec_cellOf]
        simp only [ev_bi]
        rw [if_neg (show ¬ z = 0 from ne 0 (by omega)), if_neg (show ¬ z = 1 from ne 1 (by omega)), if_neg (show ¬ z = 2 from ne 2 (by omega)), if_neg (show ¬ z = 3 from ne 3 (by omega)), if_neg (show ¬ z = 4 from ne 4 (by omega)), if_neg (show ¬ z = 5 from ne 5 (by omega)), if_neg (show ¬ z = 6 from ne 6 (by omega)), if_neg (show ¬ z = 7 from ne 7 (by omega)), if_neg (show ¬ z = 8 from ne 8 (by omega)), Nat.ble_eq.mpr hn, cond_true]
      · refine EV_bk (k := 400) ?_
        rw [bk_198_0, em_noRow hl t0 b4 t1 r16, if_pos zb]
        simp (decide := true) only [ev_bi, ↓reduceIte]
        rw [em_out zk]
        simp (decide := true) only [↓reduceIte]
        rw [em_throws1 u3s (by decide), u3u]
        simp (decide := true) only [↓reduceIte]
  · refine OPH_no (E := 1) (v := 0) h (GF_thrown (v := 1)) (by decide) (by decide) u3s (fun n o hn => ?_) (fun n o => ?_)
    · refine EV_bk (k := 400) ?_
      rw [bk_93_0, ec_reqRow hl hn hB hR, if_neg zb]
      rfl
    · refine EV_bk (k := 400) ?_
      rw [bk_198_0, em_noRow hl t0 b4 t1 r16, if_neg zb]
      simp (decide := true) only [ev_bi, ↓reduceIte]
end EC22
