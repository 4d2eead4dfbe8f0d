/-! THE PROGRAM AGAINST THE REFERENCE, 31: calls that look, 2 -/
section EC20
variable {n : Nat} {lk : Nat → Nat → Nat → Bool} {d : Nat → Nat → Nat → Int32} {o : ev_W}
theorem op_errorPosition (h : GI d) : OPN (89, 0, [ev_R 27 0], [], 0, 0) (153, 0, [ev_R 44 0], [], 0, 0) lk d := by
  obtain ⟨B, R, T, -, -, -, -, -, g6, -⟩ := id h
  refine OPN_ok (v := d 27 0 8) h (GF_r d) (GF_thrown (v := 0)) (fun n o _ => ?_) (fun n o => ?_)
  · refine EV_bk (k := 400) ?_
    rw [bk_89_0]
  · refine EV_bk (k := 400) ?_
    rw [bk_153_0, u3x (by decide), g6]
theorem op_size (hl : LK lk) (h : GI d) {x : Int32} : OPH (90, 0, [ev_R 27 0, ev_I x], [], 0, 0) (190, 0, [ev_R 44 0, ev_I x], [], 0, 0) kf_A lk d := by
  obtain ⟨B, R, T, g1, g2, -, ⟨C, τ, -, ⟨K, hs⟩, hI⟩, -, -, ⟨e, c, -, -, -, gc, gu, -⟩, -⟩ := id h
  obtain ⟨⟨t0, t1, b1, b4, r1, r16⟩, -⟩ := id g1
  obtain ⟨l0, l1, l2, l3, -⟩ := id g2
  by_cases z : 0 ≤ x ∧ x ≤ 10
  · obtain ⟨k, hk, ex⟩ := ni_of (n := 11) (by omega) z.1 (by
      have := z.2
      rw [i32_le, show (10 : Int32).toInt = 10 from by decide] at this
      rw [i32_lt, ni_t (by omega)]
      omega)
    subst ex
    have tr : d 0 1 1 = 0 ∨ d 0 1 1 = 1 := by
      rw [cs_tr hs]
      exact hI.2.2.2.1.2.2.2.1
    have hC' : ev_u3 d 44 0 0 0 46 0 9 = Int32.ofNat C := by rw [u3n (by decide), cs_w9 hs]
    match k, hk, z with
    | 0, _, z =>
      refine OPH_ok (v := d 24 1 0) h (GF_r d) (GF_thrown (v := 0)) u3s (fun n o _ => ?_) (fun n o => ?_)
      · refine EV_bk (k := 400) ?_
        rw [bk_90_0]
        simp (decide := true) only [↓reduceIte, hl 27 0 3 rfl (by decide) (by decide), hl 27 0 4 rfl (by decide) (by decide), hl 27 0 6 rfl (by decide) (by decide), show lk 0 1 8 = true from hl 0 1 8 rfl (by decide) (by decide), cond_true]
      · refine EV_bk (k := 400) ?_
        rw [bk_190_0, em_in z]
        simp (decide := true) only [ev_bi, ↓reduceIte]
        rw [em_throws0 u3s]
        simp (decide := true) only [↓reduceIte, hl 44 0 1 rfl (by decide) (by decide), cond_true, ni_in (n := 0) (N := 132) (by omega) (by omega), ni_c (n := 0) (by omega)]
        rw [u3n (by decide), l0]
    | 1, _, z =>
      refine OPH_ok (v := d 24 1 1) h (GF_r d) (GF_thrown (v := 0)) u3s (fun n o _ => ?_) (fun n o => ?_)
      · refine EV_bk (k := 400) ?_
        rw [bk_90_0]
        simp (decide := true) only [↓reduceIte, hl 27 0 3 rfl (by decide) (by decide), hl 27 0 4 rfl (by decide) (by decide), hl 27 0 6 rfl (by decide) (by decide), show lk 0 1 8 = true from hl 0 1 8 rfl (by decide) (by decide), cond_true]
      · refine EV_bk (k := 400) ?_
        rw [bk_190_0, em_in z]
        simp (decide := true) only [ev_bi, ↓reduceIte]
        rw [em_throws0 u3s]
        simp (decide := true) only [↓reduceIte, hl 44 0 1 rfl (by decide) (by decide), cond_true, ni_in (n := 1) (N := 132) (by omega) (by omega), ni_c (n := 1) (by omega)]
        rw [u3n (by decide), l1]
    | 2, _, z =>
      refine OPH_ok (v := d 24 1 2) h (GF_r d) (GF_thrown (v := 0)) u3s (fun n o _ => ?_) (fun n o => ?_)
      · refine EV_bk (k := 400) ?_
        rw [bk_90_0]
        simp (decide := true) only [↓reduceIte, hl 27 0 3 rfl (by decide) (by decide), hl 27 0 4 rfl (by decide) (by decide), hl 27 0 6 rfl (by decide) (by decide), show lk 0 1 8 = true from hl 0 1 8 rfl (by decide) (by decide), cond_true]
      · refine EV_bk (k := 400) ?_
        rw [bk_190_0, em_in z]
        simp (decide := true) only [ev_bi, ↓reduceIte]
        rw [em_throws0 u3s]
        simp (decide := true) only [↓reduceIte, hl 44 0 1 rfl (by decide) (by decide), cond_true, ni_in (n := 2) (N := 132) (by omega) (by omega), ni_c (n := 2) (by omega)]
        rw [u3n (by decide), l2]
    | 3, _, z =>
      refine OPH_ok (v := d 24 1 3) h (GF_r d) (GF_thrown (v := 0)) u3s (fun n o _ => ?_) (fun n o => ?_)
      · refine EV_bk (k := 400) ?_
        rw [bk_90_0]
        simp (decide := true) only [↓reduceIte, hl 27 0 3 rfl (by decide) (by decide), hl 27 0 4 rfl (by decide) (by decide), hl 27 0 6 rfl (by decide) (by decide), show lk 0 1 8 = true from hl 0 1 8 rfl (by decide) (by decide), cond_true]
      · refine EV_bk (k := 400) ?_
        rw [bk_190_0, em_in z]
        simp (decide := true) only [ev_bi, ↓reduceIte]
        rw [em_throws0 u3s]
        simp (decide := true) only [↓reduceIte, hl 44 0 1 rfl (by decide) (by decide), cond_true, ni_in (n := 3) (N := 132) (by omega) (by omega), ni_c (n := 3) (by omega)]
        rw [u3n (by decide), l3]
    | 4, _, z =>
      refine OPH_ok (v := d 0 1 0) h (GF_r d) (GF_thrown (v := 0)) u3s (fun n o _ => ?_) (fun n o => ?_)
      · refine EV_bk (k := 400) ?_
        rw [bk_90_0]
        simp (decide := true) only [↓reduceIte, hl 27 0 3 rfl (by decide) (by decide), hl 27 0 4 rfl (by decide) (by decide), hl 27 0 6 rfl (by decide) (by decide), show lk 0 1 8 = true from hl 0 1 8 rfl (by decide) (by decide), cond_true]
      · refine EV_bk (k := 400) ?_
        rw [bk_190_0, em_in z]
        simp (decide := true) only [ev_bi, ↓reduceIte]
        rw [em_throws0 u3s]
        simp (decide := true) only [↓reduceIte, hl 44 0 2 rfl (by decide) (by decide), cond_true]
        rw [u3n (by decide), cs_tm hs]
    | 5, _, z =>
      refine OPH_ok (v := d 17 1 0) h (GF_r d) (GF_thrown (v := 0)) u3s (fun n o _ => ?_) (fun n o => ?_)
      · refine EV_bk (k := 400) ?_
        rw [bk_90_0]
        simp (decide := true) only [↓reduceIte, hl 27 0 3 rfl (by decide) (by decide), hl 27 0 4 rfl (by decide) (by decide), hl 27 0 6 rfl (by decide) (by decide), show lk 0 1 8 = true from hl 0 1 8 rfl (by decide) (by decide), cond_true]
      · refine EV_bk (k := 400) ?_
        rw [bk_190_0, em_in z]
        simp (decide := true) only [ev_bi, ↓reduceIte]
        rw [em_throws0 u3s]
        simp (decide := true) only [↓reduceIte, hl 44 0 2 rfl (by decide) (by decide), cond_true]
        rw [u3n (by decide), cs_ct hs]
    | 6, _, z =>
      refine OPH_ok (v := Int32.ofNat (ms_ct (d 46 0) 1 C)) h (GF_r d) (GF_thrown (v := 0)) u3s (fun n o _ => ?_) (fun n o => ?_)
      · refine EV_bk (k := 400) ?_
        rw [bk_90_0]
        simp (decide := true) only [↓reduceIte, hl 27 0 4 rfl (by decide) (by decide), show lk 0 1 8 = true from hl 0 1 8 rfl (by decide) (by decide), cond_true, ec_countIn hl (i := 1) (by decide) hs, ev_bi]
      · refine EV_bk (k := 400) ?_
        rw [bk_190_0, em_in z]
        simp (decide := true) only [ev_bi, ↓reduceIte]
        rw [em_throws0 u3s]
        simp (decide := true) only [↓reduceIte]
        rw [em_waitingMany hl hC' (cs_C hs), u3n (by decide)]
    | 7, _, z =>
      refine OPH_ok (v := ms_lost (d 46 0) 64) h (GF_r d) (GF_thrown (v := 0)) u3s (fun n o _ => ?_) (fun n o => ?_)
      · refine EV_bk (k := 400) ?_
        rw [bk_90_0]
        simp (decide := true) only [↓reduceIte, ec_lostMany hl hs, ev_bi]
      · refine EV_bk (k := 400) ?_
        rw [bk_190_0, em_in z]
        simp (decide := true) only [ev_bi, ↓reduceIte]
        rw [em_throws0 u3s]
        simp (decide := true) only [↓reduceIte]
        rw [em_lostMany hl, u3n (by decide)]
    | 8, _, z =>
      refine OPH_ok (v := Int32.ofNat (ms_hots (d 46 0) B)) h (GF_r d) (GF_thrown (v := 0)) u3s (fun n o _ => ?_) (fun n o => ?_)
      · refine EV_bk (k := 400) ?_
        rw [bk_90_0]
        simp (decide := true) only [↓reduceIte, ec_hotMany hl hs (g2.1.trans t0) b4, ev_bi]
      · refine EV_bk (k := 400) ?_
        rw [bk_190_0, em_in z]
        simp (decide := true) only [ev_bi, ↓reduceIte]
        rw [em_throws0 u3s]
        simp (decide := true) only [↓reduceIte]
        rw [em_hotMany hl (B := B) (by rw [u3n (by decide), t0]) b4, u3n (by decide)]
    | 9, _, z =>
      refine OPH_ok (v := d 46 0 7) h (GF_r d) (GF_thrown (v := 0)) u3s (fun n o _ => ?_) (fun n o => ?_)
      · refine EV_bk (k := 400) ?_
        rw [bk_90_0]
        rw [← cs_tr hs]
        rcases tr with y | y <;> simp (decide := true) only [↓reduceIte, hl 27 0 4 rfl (by decide) (by decide), cond_true, y]
      · refine EV_bk (k := 400) ?_
        rw [bk_190_0, em_in z]
        simp (decide := true) only [ev_bi, ↓reduceIte]
        rw [em_throws0 u3s]
        simp (decide := true) only [↓reduceIte, hl 44 0 2 rfl (by decide) (by decide), cond_true]
        rw [u3n (by decide)]
    | 10, _, z =>
      refine OPH_ok (v := d 39 0 2) h (GF_r d) (GF_thrown (v := 0)) u3s (fun n o _ => ?_) (fun n o => ?_)
      · refine EV_bk (k := 400) ?_
        rw [bk_90_0]
        simp (decide := true) only [↓reduceIte, hl 27 0 3 rfl (by decide) (by decide), hl 27 0 4 rfl (by decide) (by decide), hl 27 0 6 rfl (by decide) (by decide), show lk 0 1 8 = true from hl 0 1 8 rfl (by decide) (by decide), cond_true]
      · refine EV_bk (k := 400) ?_
        rw [bk_190_0, em_in z]
        simp (decide := true) only [ev_bi, ↓reduceIte]
        rw [em_throws0 u3s]
        simp (decide := true) only [↓reduceIte]
        rw [u3x (by decide), gu, gc]
  · refine OPH_no (E := 0) (v := 0) h (GF_thrown (v := 1)) (by decide) (by decide) u3s (fun n o hn => ?_) (fun n o => ?_)
    · refine EV_bk (k := 400) ?_
      have ne : ∀ k, k < 11 → ¬ x = Int32.ofNat k := fun k hk e => by
        subst e
        exact z ⟨ni_lo (by omega), (ni_le (b := 10) (by omega) (by omega)).mpr (by omega)⟩
      rw [bk_90_0]
      rw [if_neg (show ¬ x = 0 from ne 0 (by omega)), if_neg (show ¬ x = 1 from ne 1 (by omega)), if_neg (show ¬ x = 2 from ne 2 (by omega)), if_neg (show ¬ x = 3 from ne 3 (by omega)), if_neg (show ¬ x = 4 from ne 4 (by omega)), if_neg (show ¬ x = 5 from ne 5 (by omega)), if_neg (show ¬ x = 6 from ne 6 (by omega)), if_neg (show ¬ x = 7 from ne 7 (by omega)), if_neg (show ¬ x = 8 from ne 8 (by omega)), if_neg (show ¬ x = 9 from ne 9 (by omega)), if_neg (show ¬ x = 10 from ne 10 (by omega)), Nat.ble_eq.mpr hn, cond_true]
    · refine EV_bk (k := 400) ?_
      rw [bk_190_0, em_out z]
      simp (decide := true) only [ev_bi, ↓reduceIte]
      rw [em_throws1 u3s (by decide), u3u]
      simp (decide := true) only [↓reduceIte]
end EC20
