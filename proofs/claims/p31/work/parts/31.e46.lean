/-! THE PROGRAM AGAINST THE REFERENCE, 32: calls that look, 3 -/
theorem ni_of2 {x : Int32} (m : Nat) (hm : m < 1000) (h0 : 0 ≤ x) (h : x ≤ Int32.ofNat m) : ∃ k, k < m + 1 ∧ x = Int32.ofNat k := by
  refine ni_of (n := m + 1) (by omega) h0 ?_
  rw [i32_le, ni_t (by omega)] at h
  rw [i32_lt, ni_t (by omega)]
  omega
theorem ni_out {x : Int32} {m : Nat} (hm : m < 1000) (z : ¬ (0 ≤ x ∧ x ≤ Int32.ofNat m)) : ∀ k, k < m + 1 → ¬ x = Int32.ofNat k := fun k hk e => by
  subst e
  exact z ⟨ni_lo (by omega), (ni_le (by omega) (by omega)).mpr (by omega)⟩
section EC21
variable {n : Nat} {lk : Nat → Nat → Nat → Bool} {d : Nat → Nat → Nat → Int32} {o : ev_W}
theorem op_setting (hl : LK lk) (h : GI d) {x : Int32} : OPH (91, 0, [ev_R 27 0, ev_I x], [], 0, 0) (192, 0, [ev_R 44 0, ev_I x], [], 0, 0) kf_A lk d := by
  obtain ⟨B, R, T, -, -, -, ⟨C, τ, -, ⟨K, hs⟩, hI⟩, -⟩ := id h
  by_cases z : 0 ≤ x ∧ x ≤ 6
  · obtain ⟨k, hk, ex⟩ := ni_of2 6 (by omega) z.1 z.2
    subst ex
    refine OPH_ok (v := d 46 0 k) h (GF_r d) (GF_thrown (v := 0)) u3s (fun n o _ => ?_) (fun n o => ?_)
    · refine EV_bk (k := 400) ?_
      rw [bk_91_0, if_neg (Int32.not_lt.mpr z.1), if_pos (show Int32.ofNat k < 7 from (ni_lt (b := 7) (by omega) (by omega)).mpr (by omega))]
      simp only [hl 27 0 4 rfl (by decide) (by decide), show lk 0 1 4 = true from hl 0 1 4 rfl (by decide) (by decide), cond_true, ni_in (n := k) (N := 7) (by omega) (by omega), ni_c (n := k) (by omega), cs_1 hs (k := k) (by omega)]
    · refine EV_bk (k := 400) ?_
      rw [bk_192_0, em_noSetting, if_pos z]
      simp only [ev_bi, ↓reduceIte, hl 44 0 2 rfl (by decide) (by decide), cond_true, Int32.zero_add, ni_in (n := k) (N := 615) (by omega) (by omega), ni_c (n := k) (by omega)]
      rw [u3n (by decide)]
  · refine OPH_no (E := 0) (v := 0) h (GF_thrown (v := 1)) (by decide) (by decide) u3s (fun n o hn => ?_) (fun n o => ?_)
    · refine EV_bk (k := 400) ?_
      rw [bk_91_0, Nat.ble_eq.mpr hn, cond_true]
      by_cases y : x < 0
      · rw [if_pos y]
      · have y2 : ¬ x < 7 := fun v => z ⟨Int32.not_lt.mp y, by
          rw [i32_lt, show (7 : Int32).toInt = 7 from by decide] at v
          rw [i32_le, show (6 : Int32).toInt = 6 from by decide]
          omega⟩
        rw [if_neg y, if_neg y2]
    · refine EV_bk (k := 400) ?_
      rw [bk_192_0, em_noSetting, if_neg z]
      simp (decide := true) only [ev_bi, ↓reduceIte]
theorem op_account (hl : LK lk) (h : GI d) {x : Int32} : OPH (106, 0, [ev_R 27 0, ev_I x], [], 0, 0) (212, 0, [ev_R 44 0, ev_I x], [], 0, 0) kf_A lk d := by
  obtain ⟨B, R, T, -, -, -, ⟨C, τ, -, ⟨K, hs⟩, hI⟩, -⟩ := id h
  by_cases z : 0 ≤ x ∧ x ≤ 5
  · obtain ⟨k, hk, ex⟩ := ni_of2 5 (by omega) z.1 z.2
    subst ex
    refine OPH_ok (v := d 46 0 (11 + k)) h (GF_r d) (GF_thrown (v := 0)) u3s (fun n o _ => ?_) (fun n o => ?_)
    · refine EV_bk (k := 400) ?_
      rw [bk_106_0, if_neg (Int32.not_lt.mpr z.1), if_pos (show Int32.ofNat k < 6 from (ni_lt (b := 6) (by omega) (by omega)).mpr (by omega))]
      simp only [hl 27 0 4 rfl (by decide) (by decide), show lk 0 1 5 = true from hl 0 1 5 rfl (by decide) (by decide), cond_true, ni_in (n := k) (N := 6) (by omega) (by omega), ni_c (n := k) (by omega), cs_2 hs (k := k) (by omega)]
    · refine EV_bk (k := 400) ?_
      rw [bk_212_0, em_in z]
      simp (decide := true) only [ev_bi, ↓reduceIte]
      rw [em_throws0 u3s]
      have e : (11 : Int32) + Int32.ofNat k = Int32.ofNat (11 + k) := (Int32.ofNat_add 11 k).symm
      simp only [↓reduceIte, hl 44 0 2 rfl (by decide) (by decide), cond_true, e, ni_in (n := 11 + k) (N := 615) (by omega) (by omega), ni_c (n := 11 + k) (by omega)]
      rw [u3n (by decide)]
  · refine OPH_no (E := 0) (v := 0) h (GF_thrown (v := 1)) (by decide) (by decide) u3s (fun n o hn => ?_) (fun n o => ?_)
    · refine EV_bk (k := 400) ?_
      rw [bk_106_0, Nat.ble_eq.mpr hn, cond_true]
      by_cases y : x < 0
      · rw [if_pos y]
      · have y2 : ¬ x < 6 := fun v => z ⟨Int32.not_lt.mp y, by
          rw [i32_lt, show (6 : Int32).toInt = 6 from by decide] at v
          rw [i32_le, show (5 : Int32).toInt = 5 from by decide]
          omega⟩
        rw [if_neg y, if_neg y2]
    · refine EV_bk (k := 400) ?_
      rw [bk_212_0, em_out z]
      simp (decide := true) only [ev_bi, ↓reduceIte]
      rw [em_throws1 u3s (by decide), u3u]
      simp (decide := true) only [↓reduceIte]
theorem op_greatest (hl : LK lk) (h : GI d) : OPN (104, 0, [ev_R 27 0], [], 0, 0) (210, 0, [ev_R 44 0], [], 0, 0) lk d := by
  obtain ⟨B, R, T, -, -, -, ⟨C, τ, -, ⟨K, hs⟩, hI⟩, -⟩ := id h
  refine OPN_ok (v := d 46 0 18) h (GF_r d) (GF_thrown (v := 0)) (fun n o _ => ?_) (fun n o => ?_)
  · refine EV_bk (k := 400) ?_
    rw [bk_104_0, hl 27 0 4 rfl (by decide) (by decide), cond_true, cs_gr hs]
  · refine EV_bk (k := 400) ?_
    rw [bk_210_0, hl 44 0 2 rfl (by decide) (by decide), cond_true]
theorem op_isWhole (hl : LK lk) (h : GI d) : OPN (105, 0, [ev_R 27 0], [], 0, 0) (211, 0, [ev_R 44 0], [], 0, 0) lk d := by
  obtain ⟨B, R, T, g1, g2, -, ⟨C, τ, -, ⟨K, hs⟩, hI⟩, -⟩ := id h
  obtain ⟨⟨t0, t1, b1, b4, r1, r16⟩, -⟩ := id g1
  refine OPN_ok (v := if ms_sum (d 46 0) B = d 46 0 11 - d 46 0 12 then 1 else 0) h (GF_r d) (GF_thrown (v := 0)) (fun n o _ => ?_) (fun n o => ?_)
  · have loop : ∀ j k, k + j = B → EV (105, 4, [ev_R 27 0, ev_I (ms_sum (d 46 0) k), ev_I (Int32.ofNat k)], [], 0, 0) (n, lk, d, o) = some (.inl (some (ev_I (if ms_sum (d 46 0) B = d 46 0 11 - d 46 0 12 then 1 else 0))), (n, lk, d, o)) := by
      intro j
      induction j with
      | zero =>
        intro k hk
        have e : k = B := by omega
        subst e
        refine EV_bk (k := 400) ?_
        rw [bk_105_4, hl 27 0 3 rfl (by decide) (by decide), cond_true, g2.1, t0, if_neg (fun z => by have := (ni_lt (by omega) (by omega)).mp z; omega)]
        have q0 : d 2 1 0 = d 46 0 11 := cs_2 hs (k := 0) (by decide)
        have q1 : d 2 1 1 = d 46 0 12 := cs_2 hs (k := 1) (by decide)
        simp only [hl 27 0 4 rfl (by decide) (by decide), show lk 0 1 5 = true from hl 0 1 5 rfl (by decide) (by decide), cond_true, q0, q1]
        split <;> rfl
      | succ j ih =>
        intro k hk
        have hlt : Int32.ofNat k < Int32.ofNat B := (ni_lt (by omega) (by omega)).mpr (by omega)
        refine EV_bk (k := 400) ?_
        rw [bk_105_4, hl 27 0 3 rfl (by decide) (by decide), cond_true, g2.1, t0, if_pos hlt]
        simp only [hl 27 0 4 rfl (by decide) (by decide), show lk 0 1 6 = true from hl 0 1 6 rfl (by decide) (by decide), show lk 3 1 0 = true from hl 3 1 0 rfl (by decide) (by decide), cond_true, ni_in (n := k) (N := 4) (by omega) (by omega), ni_c (n := k) (by omega), cs_4 hs (b := k) (by omega), ni_1]
        exact ih (k + 1) (by omega)
    refine EV_bk (k := 400) ?_
    rw [bk_105_0]
    exact loop B 0 (by omega)
  · have hB : ev_u3 d 44 0 0 0 45 0 0 = Int32.ofNat B := by rw [u3n (by decide), t0]
    have loop : ∀ j k, k + j = B → EV (211, 9, [ev_R 44 0, ev_I (ms_sum (d 46 0) k), ev_I (Int32.ofNat k)], [], 0, 0) (n, lk, ev_u3 d 44 0 0 0, o) = some (.inl (some (ev_I (if ms_sum (d 46 0) B = d 46 0 11 - d 46 0 12 then 1 else 0))), (n, lk, ev_u3 d 44 0 0 0, o)) := by
      intro j
      induction j with
      | zero =>
        intro k hk
        have e : k = B := by omega
        subst e
        refine EV_bk (k := 400) ?_
        rw [bk_211_9, hl 44 0 1 rfl (by decide) (by decide), cond_true, hB, if_neg (fun z => by have := (ni_lt (by omega) (by omega)).mp z; omega), hl 44 0 2 rfl (by decide) (by decide), cond_true, cond_true, u3n (by decide)]
        split <;> rfl
      | succ j ih =>
        intro k hk
        have hlt : Int32.ofNat k < Int32.ofNat B := (ni_lt (by omega) (by omega)).mpr (by omega)
        refine EV_bk (k := 400) ?_
        rw [bk_211_9, hl 44 0 1 rfl (by decide) (by decide), cond_true, hB, if_pos hlt, em_of hl (w := 0) (x := 0) rfl (by omega)]
        simp only [ev_bi, ni_1]
        rw [u3n (by decide)]
        exact ih (k + 1) (by omega)
    refine EV_bk (k := 400) ?_
    rw [bk_211_0]
    exact loop B 0 (by omega)

theorem op_bank (hl : LK lk) (h : GI d) {x y : Int32} : OPH (92, 0, [ev_R 27 0, ev_I x, ev_I y], [], 0, 0) (197, 0, [ev_R 44 0, ev_I x, ev_I y], [], 0, 0) kf_B lk d := by
  obtain ⟨B, R, T, g1, g2, -, ⟨C, τ, -, ⟨K, hs⟩, hI⟩, -⟩ := id h
  obtain ⟨⟨t0, t1, b1, b4, r1, r16⟩, -⟩ := id g1
  have hB := g2.1.trans t0
  by_cases zb : 0 ≤ x ∧ x < Int32.ofNat B
  · obtain ⟨b, hb, ex⟩ := ni_of (by omega) zb.1 zb.2
    subst ex
    by_cases z : 0 ≤ y ∧ y ≤ 8
    · obtain ⟨k, hk, ey⟩ := ni_of2 8 (by omega) z.1 z.2
      subst ey
      have hC' : ev_u3 d 44 0 0 0 46 0 9 = Int32.ofNat C := by rw [u3n (by decide), cs_w9 hs]
      match k, hk, z with
      | 0, _, z =>
        refine OPH_ok (v := d 46 0 (19 + 9 * b + 0)) h (GF_r d) (GF_thrown (v := 0)) u3s (fun n o hn => ?_) (fun n o => ?_)
        · refine EV_bk (k := 400) ?_
          rw [bk_92_0, ec_reqBank hl hn hB, if_pos zb]
          simp (decide := true) only [ev_bv, ↓reduceIte, hl 27 0 4 rfl (by decide) (by decide), show lk 0 1 6 = true from hl 0 1 6 rfl (by decide) (by decide), show lk 3 1 0 = true from hl 3 1 0 rfl (by decide) (by decide), cond_true, ni_in (n := b) (N := 4) (by omega) (by omega), ni_c (n := b) (by omega), cs_4 hs (b := b) (by omega)]
        · refine EV_bk (k := 400) ?_
          rw [bk_197_0, em_noBank hl t0 b4, if_pos zb]
          simp (decide := true) only [ev_bi, ↓reduceIte]
          rw [em_in z]
          simp (decide := true) only [↓reduceIte]
          rw [em_throws0 u3s]
          simp (decide := true) only [↓reduceIte]
          rw [em_of hl (w := 0) (x := Int32.ofNat 0) rfl (by omega), u3n (by decide)]
      | 1, _, z =>
        refine OPH_ok (v := d 46 0 (19 + 9 * b + 1)) h (GF_r d) (GF_thrown (v := 0)) u3s (fun n o hn => ?_) (fun n o => ?_)
        · refine EV_bk (k := 400) ?_
          rw [bk_92_0, ec_reqBank hl hn hB, if_pos zb]
          simp (decide := true) only [ev_bv, ↓reduceIte, hl 27 0 4 rfl (by decide) (by decide), show lk 0 1 6 = true from hl 0 1 6 rfl (by decide) (by decide), show lk 3 1 1 = true from hl 3 1 1 rfl (by decide) (by decide), cond_true, ni_in (n := b) (N := 4) (by omega) (by omega), ni_c (n := b) (by omega), cs_5 hs (b := b) (by omega)]
        · refine EV_bk (k := 400) ?_
          rw [bk_197_0, em_noBank hl t0 b4, if_pos zb]
          simp (decide := true) only [ev_bi, ↓reduceIte]
          rw [em_in z]
          simp (decide := true) only [↓reduceIte]
          rw [em_throws0 u3s]
          simp (decide := true) only [↓reduceIte]
          rw [em_of hl (w := 1) (x := Int32.ofNat 1) rfl (by omega), u3n (by decide)]
      | 2, _, z =>
        refine OPH_ok (v := Int32.ofNat (ms_many (d 46 0) b 1 C)) h (GF_r d) (GF_thrown (v := 0)) u3s (fun n o hn => ?_) (fun n o => ?_)
        · refine EV_bk (k := 400) ?_
          rw [bk_92_0, ec_reqBank hl hn hB, if_pos zb]
          simp (decide := true) only [ev_bv, ↓reduceIte, hl 27 0 4 rfl (by decide) (by decide), show lk 0 1 8 = true from hl 0 1 8 rfl (by decide) (by decide), cond_true, ec_countOfBank hl (i := 1) (by decide) hs, ev_bi]
        · refine EV_bk (k := 400) ?_
          rw [bk_197_0, em_noBank hl t0 b4, if_pos zb]
          simp (decide := true) only [ev_bi, ↓reduceIte]
          rw [em_in z]
          simp (decide := true) only [↓reduceIte]
          rw [em_throws0 u3s]
          simp (decide := true) only [↓reduceIte]
          rw [em_waitingOf hl hC' (cs_C hs), u3n (by decide)]
      | 3, _, z =>
        refine OPH_ok (v := d 46 0 (19 + 9 * b + 2)) h (GF_r d) (GF_thrown (v := 0)) u3s (fun n o hn => ?_) (fun n o => ?_)
        · refine EV_bk (k := 400) ?_
          rw [bk_92_0, ec_reqBank hl hn hB, if_pos zb]
          simp (decide := true) only [ev_bv, ↓reduceIte, hl 27 0 4 rfl (by decide) (by decide), show lk 0 1 8 = true from hl 0 1 8 rfl (by decide) (by decide), cond_true, ec_countOfBank hl (i := 1) (by decide) hs, ev_bi]
          rw [hI.2.2.2.2.2.2.1 b (by omega)]
        · refine EV_bk (k := 400) ?_
          rw [bk_197_0, em_noBank hl t0 b4, if_pos zb]
          simp (decide := true) only [ev_bi, ↓reduceIte]
          rw [em_in z]
          simp (decide := true) only [↓reduceIte]
          rw [em_throws0 u3s]
          simp (decide := true) only [↓reduceIte]
          rw [em_of hl (w := 2) (x := Int32.ofNat 3 - 1) (by decide) (by omega), u3n (by decide)]
      | 4, _, z =>
        refine OPH_ok (v := d 46 0 (19 + 9 * b + 3)) h (GF_r d) (GF_thrown (v := 0)) u3s (fun n o hn => ?_) (fun n o => ?_)
        · refine EV_bk (k := 400) ?_
          rw [bk_92_0, ec_reqBank hl hn hB, if_pos zb]
          simp (decide := true) only [ev_bv, ↓reduceIte, hl 27 0 4 rfl (by decide) (by decide), show lk 0 1 6 = true from hl 0 1 6 rfl (by decide) (by decide), show lk 3 1 2 = true from hl 3 1 2 rfl (by decide) (by decide), cond_true, ni_in (n := b) (N := 4) (by omega) (by omega), ni_c (n := b) (by omega), cs_6 hs (b := b) (by omega)]
        · refine EV_bk (k := 400) ?_
          rw [bk_197_0, em_noBank hl t0 b4, if_pos zb]
          simp (decide := true) only [ev_bi, ↓reduceIte]
          rw [em_in z]
          simp (decide := true) only [↓reduceIte]
          rw [em_throws0 u3s]
          simp (decide := true) only [↓reduceIte]
          rw [em_of hl (w := 3) (x := Int32.ofNat 4 - 1) (by decide) (by omega), u3n (by decide)]
      | 5, _, z =>
        refine OPH_ok (v := d 46 0 (19 + 9 * b + 4)) h (GF_r d) (GF_thrown (v := 0)) u3s (fun n o hn => ?_) (fun n o => ?_)
        · refine EV_bk (k := 400) ?_
          rw [bk_92_0, ec_reqBank hl hn hB, if_pos zb]
          simp (decide := true) only [ev_bv, ↓reduceIte, hl 27 0 4 rfl (by decide) (by decide), show lk 0 1 6 = true from hl 0 1 6 rfl (by decide) (by decide), show lk 3 1 3 = true from hl 3 1 3 rfl (by decide) (by decide), cond_true, ni_in (n := b) (N := 4) (by omega) (by omega), ni_c (n := b) (by omega), cs_7 hs (b := b) (by omega)]
        · refine EV_bk (k := 400) ?_
          rw [bk_197_0, em_noBank hl t0 b4, if_pos zb]
          simp (decide := true) only [ev_bi, ↓reduceIte]
          rw [em_in z]
          simp (decide := true) only [↓reduceIte]
          rw [em_throws0 u3s]
          simp (decide := true) only [↓reduceIte]
          rw [em_of hl (w := 4) (x := Int32.ofNat 5 - 1) (by decide) (by omega), u3n (by decide)]
      | 6, _, z =>
        refine OPH_ok (v := d 46 0 (19 + 9 * b + 5)) h (GF_r d) (GF_thrown (v := 0)) u3s (fun n o hn => ?_) (fun n o => ?_)
        · refine EV_bk (k := 400) ?_
          rw [bk_92_0, ec_reqBank hl hn hB, if_pos zb]
          simp (decide := true) only [ev_bv, ↓reduceIte, hl 27 0 4 rfl (by decide) (by decide), show lk 0 1 6 = true from hl 0 1 6 rfl (by decide) (by decide), show lk 3 1 4 = true from hl 3 1 4 rfl (by decide) (by decide), cond_true, ni_in (n := b) (N := 4) (by omega) (by omega), ni_c (n := b) (by omega), cs_8 hs (b := b) (by omega)]
        · refine EV_bk (k := 400) ?_
          rw [bk_197_0, em_noBank hl t0 b4, if_pos zb]
          simp (decide := true) only [ev_bi, ↓reduceIte]
          rw [em_in z]
          simp (decide := true) only [↓reduceIte]
          rw [em_throws0 u3s]
          simp (decide := true) only [↓reduceIte]
          rw [em_of hl (w := 5) (x := Int32.ofNat 6 - 1) (by decide) (by omega), u3n (by decide)]
      | 7, _, z =>
        refine OPH_ok (v := d 46 0 (19 + 9 * b + 6)) h (GF_r d) (GF_thrown (v := 0)) u3s (fun n o hn => ?_) (fun n o => ?_)
        · refine EV_bk (k := 400) ?_
          rw [bk_92_0, ec_reqBank hl hn hB, if_pos zb]
          simp (decide := true) only [ev_bv, ↓reduceIte, hl 27 0 4 rfl (by decide) (by decide), show lk 0 1 6 = true from hl 0 1 6 rfl (by decide) (by decide), show lk 3 1 5 = true from hl 3 1 5 rfl (by decide) (by decide), cond_true, ni_in (n := b) (N := 4) (by omega) (by omega), ni_c (n := b) (by omega), cs_9 hs (b := b) (by omega)]
        · refine EV_bk (k := 400) ?_
          rw [bk_197_0, em_noBank hl t0 b4, if_pos zb]
          simp (decide := true) only [ev_bi, ↓reduceIte]
          rw [em_in z]
          simp (decide := true) only [↓reduceIte]
          rw [em_throws0 u3s]
          simp (decide := true) only [↓reduceIte]
          rw [em_of hl (w := 6) (x := Int32.ofNat 7 - 1) (by decide) (by omega), u3n (by decide)]
      | 8, _, z =>
        refine OPH_ok (v := d 46 0 (19 + 9 * b + 7)) h (GF_r d) (GF_thrown (v := 0)) u3s (fun n o hn => ?_) (fun n o => ?_)
        · refine EV_bk (k := 400) ?_
          rw [bk_92_0, ec_reqBank hl hn hB, if_pos zb]
          simp (decide := true) only [ev_bv, ↓reduceIte, hl 27 0 4 rfl (by decide) (by decide), show lk 0 1 6 = true from hl 0 1 6 rfl (by decide) (by decide), show lk 3 1 6 = true from hl 3 1 6 rfl (by decide) (by decide), cond_true, ni_in (n := b) (N := 4) (by omega) (by omega), ni_c (n := b) (by omega), cs_10 hs (b := b) (by omega)]
        · refine EV_bk (k := 400) ?_
          rw [bk_197_0, em_noBank hl t0 b4, if_pos zb]
          simp (decide := true) only [ev_bi, ↓reduceIte]
          rw [em_in z]
          simp (decide := true) only [↓reduceIte]
          rw [em_throws0 u3s]
          simp (decide := true) only [↓reduceIte]
          rw [em_of hl (w := 7) (x := Int32.ofNat 8 - 1) (by decide) (by omega), u3n (by decide)]
    · refine OPH_no (E := 0) (v := 0) h (GF_thrown (v := 2)) (by decide) (by decide) u3s (fun n o hn => ?_) (fun n o => ?_)
      · refine EV_bk (k := 400) ?_
        have ne := ni_out (m := 8) (by omega) z
        rw [bk_92_0, ec_reqBank hl hn hB, if_pos zb]
        simp only [ev_bv]
        rw [if_neg (show ¬ y = 0 from ne 0 (by omega)), if_neg (show ¬ y = 1 from ne 1 (by omega)), if_neg (show ¬ y = 2 from ne 2 (by omega)), if_neg (show ¬ y = 3 from ne 3 (by omega)), if_neg (show ¬ y = 4 from ne 4 (by omega)), if_neg (show ¬ y = 5 from ne 5 (by omega)), if_neg (show ¬ y = 6 from ne 6 (by omega)), if_neg (show ¬ y = 7 from ne 7 (by omega)), if_neg (show ¬ y = 8 from ne 8 (by omega)), Nat.ble_eq.mpr hn, cond_true]
      · refine EV_bk (k := 400) ?_
        rw [bk_197_0, em_noBank hl t0 b4, if_pos zb]
        simp (decide := true) only [ev_bi, ↓reduceIte]
        rw [em_out z]
        simp (decide := true) only [↓reduceIte]
        rw [em_throws1 u3s (by decide), u3u]
        simp (decide := true) only [↓reduceIte]
  · refine OPH_no (E := 1) (v := 0) h (GF_thrown (v := 1)) (by decide) (by decide) u3s (fun n o hn => ?_) (fun n o => ?_)
    · refine EV_bk (k := 400) ?_
      rw [bk_92_0, ec_reqBank hl hn hB, if_neg zb]
      rfl
    · refine EV_bk (k := 400) ?_
      rw [bk_197_0, em_noBank hl t0 b4, if_neg zb]
      simp (decide := true) only [ev_bi, ↓reduceIte]
theorem op_request (hl : LK lk) (h : GI d) {x y : Int32} : OPH (94, 0, [ev_R 27 0, ev_I x, ev_I y], [], 0, 0) (199, 0, [ev_R 44 0, ev_I x, ev_I y], [], 0, 0) kf_B lk d := by
  obtain ⟨B, R, T, g1, g2, -, ⟨C, τ, -, ⟨K, hs⟩, hI⟩, -⟩ := id h
  have h40 := cs_C hs
  have hC := (cs_ct hs).trans (cs_w9 hs)
  by_cases zb : 0 ≤ x ∧ x < Int32.ofNat C
  · obtain ⟨q, hq, ex⟩ := ni_of (by omega) zb.1 zb.2
    subst ex
    by_cases z : 0 ≤ y ∧ y ≤ 4
    · obtain ⟨k, hk, ey⟩ := ni_of2 4 (by omega) z.1 z.2
      subst ey
      match k, hk, z with
      | 0, _, z =>
        refine OPH_ok (v := d 46 0 (375 + 6 * q + 0)) h (GF_r d) (GF_thrown (v := 0)) u3s (fun n o hn => ?_) (fun n o => ?_)
        · refine EV_bk (k := 400) ?_
          rw [bk_94_0, ec_reqRequest hl hn hC, if_pos zb]
          simp (decide := true) only [ev_bv, ↓reduceIte, hl 27 0 4 rfl (by decide) (by decide), show lk 0 1 8 = true from hl 0 1 8 rfl (by decide) (by decide), show lk 17 1 2 = true from hl 17 1 2 rfl (by decide) (by decide), cond_true, ni_in (n := q) (N := 40) (by omega) (by omega), ni_c (n := q) (by omega), cs_18 hs (q := q) (by omega)]
        · refine EV_bk (k := 400) ?_
          rw [bk_199_0, em_noRequest hl (cs_w9 hs) h40, if_pos zb]
          simp (decide := true) only [ev_bi, ↓reduceIte]
          rw [em_in z]
          simp (decide := true) only [↓reduceIte]
          rw [em_throws0 u3s]
          simp (decide := true) only [↓reduceIte]
          rw [em_ofRequest hl (w := 0) (x := Int32.ofNat 0) rfl (by omega), u3n (by decide)]
      | 1, _, z =>
        refine OPH_ok (v := d 46 0 (375 + 6 * q + 1)) h (GF_r d) (GF_thrown (v := 0)) u3s (fun n o hn => ?_) (fun n o => ?_)
        · refine EV_bk (k := 400) ?_
          rw [bk_94_0, ec_reqRequest hl hn hC, if_pos zb]
          simp (decide := true) only [ev_bv, ↓reduceIte, hl 27 0 4 rfl (by decide) (by decide), show lk 0 1 8 = true from hl 0 1 8 rfl (by decide) (by decide), show lk 17 1 3 = true from hl 17 1 3 rfl (by decide) (by decide), cond_true, ni_in (n := q) (N := 40) (by omega) (by omega), ni_c (n := q) (by omega), cs_19 hs (q := q) (by omega)]
        · refine EV_bk (k := 400) ?_
          rw [bk_199_0, em_noRequest hl (cs_w9 hs) h40, if_pos zb]
          simp (decide := true) only [ev_bi, ↓reduceIte]
          rw [em_in z]
          simp (decide := true) only [↓reduceIte]
          rw [em_throws0 u3s]
          simp (decide := true) only [↓reduceIte]
          rw [em_ofRequest hl (w := 1) (x := Int32.ofNat 1) rfl (by omega), u3n (by decide)]
      | 2, _, z =>
        refine OPH_ok (v := d 46 0 (375 + 6 * q + 2)) h (GF_r d) (GF_thrown (v := 0)) u3s (fun n o hn => ?_) (fun n o => ?_)
        · refine EV_bk (k := 400) ?_
          rw [bk_94_0, ec_reqRequest hl hn hC, if_pos zb]
          simp (decide := true) only [ev_bv, ↓reduceIte, hl 27 0 4 rfl (by decide) (by decide), show lk 0 1 8 = true from hl 0 1 8 rfl (by decide) (by decide), show lk 17 1 4 = true from hl 17 1 4 rfl (by decide) (by decide), cond_true, ni_in (n := q) (N := 40) (by omega) (by omega), ni_c (n := q) (by omega), cs_20 hs (q := q) (by omega)]
        · refine EV_bk (k := 400) ?_
          rw [bk_199_0, em_noRequest hl (cs_w9 hs) h40, if_pos zb]
          simp (decide := true) only [ev_bi, ↓reduceIte]
          rw [em_in z]
          simp (decide := true) only [↓reduceIte]
          rw [em_throws0 u3s]
          simp (decide := true) only [↓reduceIte]
          rw [em_ofRequest hl (w := 2) (x := Int32.ofNat 2) rfl (by omega), u3n (by decide)]
      | 3, _, z =>
        refine OPH_ok (v := d 46 0 (375 + 6 * q + 3)) h (GF_r d) (GF_thrown (v := 0)) u3s (fun n o hn => ?_) (fun n o => ?_)
        · refine EV_bk (k := 400) ?_
          rw [bk_94_0, ec_reqRequest hl hn hC, if_pos zb]
          simp (decide := true) only [ev_bv, ↓reduceIte, hl 27 0 4 rfl (by decide) (by decide), show lk 0 1 8 = true from hl 0 1 8 rfl (by decide) (by decide), show lk 17 1 5 = true from hl 17 1 5 rfl (by decide) (by decide), cond_true, ni_in (n := q) (N := 40) (by omega) (by omega), ni_c (n := q) (by omega), cs_21 hs (q := q) (by omega)]
        · refine EV_bk (k := 400) ?_
          rw [bk_199_0, em_noRequest hl (cs_w9 hs) h40, if_pos zb]
          simp (decide := true) only [ev_bi, ↓reduceIte]
          rw [em_in z]
          simp (decide := true) only [↓reduceIte]
          rw [em_throws0 u3s]
          simp (decide := true) only [↓reduceIte]
          rw [em_ofRequest hl (w := 3) (x := Int32.ofNat 3) rfl (by omega), u3n (by decide)]
      | 4, _, z =>
        refine OPH_ok (v := d 46 0 (375 + 6 * q + 4)) h (GF_r d) (GF_thrown (v := 0)) u3s (fun n o hn => ?_) (fun n o => ?_)
        · refine EV_bk (k := 400) ?_
          rw [bk_94_0, ec_reqRequest hl hn hC, if_pos zb]
          simp (decide := true) only [ev_bv, ↓reduceIte, hl 27 0 4 rfl (by decide) (by decide), show lk 0 1 8 = true from hl 0 1 8 rfl (by decide) (by decide), show lk 17 1 6 = true from hl 17 1 6 rfl (by decide) (by decide), cond_true, ni_in (n := q) (N := 40) (by omega) (by omega), ni_c (n := q) (by omega), cs_22 hs (q := q) (by omega)]
        · refine EV_bk (k := 400) ?_
          rw [bk_199_0, em_noRequest hl (cs_w9 hs) h40, if_pos zb]
          simp (decide := true) only [ev_bi, ↓reduceIte]
          rw [em_in z]
          simp (decide := true) only [↓reduceIte]
          rw [em_throws0 u3s]
          simp (decide := true) only [↓reduceIte]
          rw [em_ofRequest hl (w := 4) (x := Int32.ofNat 4) rfl (by omega), u3n (by decide)]
    · refine OPH_no (E := 0) (v := 0) h (GF_thrown (v := 2)) (by decide) (by decide) u3s (fun n o hn => ?_) (fun n o => ?_)
      · refine EV_bk (k := 400) ?_
        have ne := ni_out (m := 4) (by omega) z
        rw [bk_94_0, ec_reqRequest hl hn hC, if_pos zb]
        simp only [ev_bv]
        rw [if_neg (show ¬ y = 0 from ne 0 (by omega)), if_neg (show ¬ y = 1 from ne 1 (by omega)), if_neg (show ¬ y = 2 from ne 2 (by omega)), if_neg (show ¬ y = 3 from ne 3 (by omega)), if_neg (show ¬ y = 4 from ne 4 (by omega)), Nat.ble_eq.mpr hn, cond_true]
      · refine EV_bk (k := 400) ?_
        rw [bk_199_0, em_noRequest hl (cs_w9 hs) h40, if_pos zb]
        simp (decide := true) only [ev_bi, ↓reduceIte]
        rw [em_out z]
        simp (decide := true) only [↓reduceIte]
        rw [em_throws1 u3s (by decide), u3u]
        simp (decide := true) only [↓reduceIte]
  · refine OPH_no (E := 1) (v := 0) h (GF_thrown (v := 1)) (by decide) (by decide) u3s (fun n o hn => ?_) (fun n o => ?_)
    · refine EV_bk (k := 400) ?_
      rw [bk_94_0, ec_reqRequest hl hn hC, if_neg zb]
      rfl
    · refine EV_bk (k := 400) ?_
      rw [bk_199_0, em_noRequest hl (cs_w9 hs) h40, if_neg zb]
      simp (decide := true) only [ev_bi, ↓reduceIte]
end EC21
