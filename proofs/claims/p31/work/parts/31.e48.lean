/-! THE PROGRAM AGAINST THE REFERENCE, 34: the waiting -/
section EC23
variable {n : Nat} {lk : Nat → Nat → Nat → Bool} {d : Nat → Nat → Nat → Int32} {o : ev_W}
/-- nobody waits at a place that no line has -/
theorem ec_inLineNo (hl : LK lk) {i : Nat} (hi : i < 15) {w : Nat → Int32} {C K : Nat} (hs : CS d i w C K) {b : Nat} (hb : b < 4) {y : Int32} (hy : ∀ a, a < 40 → ¬ Int32.ofNat a = y) : EV (51, 0, [ev_R 17 i, ev_I (Int32.ofNat b), ev_I y], [], 0, 0) (n, lk, d, o) = some (.inl (some (ev_I (-1))), (n, lk, d, o)) := by
  have hKC : K ≤ C := by
    have := ms_cm_le w C
    rw [← cs_K hs] at this
    exact this
  have h40 := cs_C hs
  have loop : ∀ j p a, p + j = K → a ≤ p → EV (51, 5, [ev_R 17 i, ev_I (Int32.ofNat b), ev_I y, ev_I (Int32.ofNat a), ev_I (Int32.ofNat p)], [], 0, 0) (n, lk, d, o) = some (.inl (some (ev_I (-1))), (n, lk, d, o)) := by
    intro j
    induction j with
    | zero =>
      intro p a hp ha
      refine EV_bk (k := 400) ?_
      rw [bk_51_5, cs_cm hs, cs_w10 hs, if_neg (fun z => by have := (ni_lt (by omega) (by omega)).mp z; omega)]
    | succ j ih =>
      intro p a hp ha
      have hlt : Int32.ofNat p < Int32.ofNat K := (ni_lt (by omega) (by omega)).mpr (by omega)
      obtain ⟨q, hq, -, -, e23⟩ := hs.2.2.2.2.2.2.2.2.2.2.2.2.2 p (by omega)
      have hha : (0 : Int32) ≤ Int32.ofNat q ∧ Int32.ofNat q < d 17 i 0 := ⟨ni_lo (by omega), by rw [cs_ct hs, cs_w9 hs]; exact (ni_lt (by omega) (by omega)).mpr hq⟩
      refine EV_bk (k := 400) ?_
      rw [bk_51_5, cs_cm hs, cs_w10 hs, if_pos hlt]
      simp only [hl 17 i 7 rfl hi (by decide), cond_true, ni_in (n := p) (N := 40) (by omega) (by omega), ni_c (n := p) (by omega), e23]
      rw [ec_has1 hha]
      simp only [ev_bi, hl 17 i 2 rfl hi (by decide), hl 17 i 5 rfl hi (by decide), cond_true, ni_in (n := q) (N := 40) (by omega) (by omega), ni_c (n := q) (by omega), ni_1]
      rw [if_neg (by decide)]
      split
      · split
        · rw [if_neg (hy a (by omega))]
          exact ih (p + 1) (a + 1) (by omega) (by omega)
        · exact ih (p + 1) a (by omega) (by omega)
      · exact ih (p + 1) a (by omega) (by omega)
  refine EV_bk (k := 400) ?_
  rw [bk_51_0]
  exact loop K 0 0 (by omega) (by omega)
theorem op_waiting (hl : LK lk) (h : GI d) {x y : Int32} : OPH (95, 0, [ev_R 27 0, ev_I x, ev_I y], [], 0, 0) (200, 0, [ev_R 44 0, ev_I x, ev_I y], [], 0, 0) kf_C lk d := by
  obtain ⟨B, R, T, g1, g2, -, ⟨C, τ, -, ⟨K, hs⟩, hI⟩, -⟩ := id h
  obtain ⟨⟨t0, t1, b1, b4, r1, r16⟩, -⟩ := id g1
  have hB := g2.1.trans t0
  have L8 : lk 0 1 8 = true := hl 0 1 8 rfl (by decide) (by decide)
  by_cases zb : 0 ≤ x ∧ x < Int32.ofNat B
  · obtain ⟨b, hb, ex⟩ := ni_of (by omega) zb.1 zb.2
    subst ex
    by_cases z : 0 ≤ y ∧ y < Int32.ofNat 40
    · obtain ⟨k, hk, ey⟩ := ni_of (by omega) z.1 z.2
      subst ey
      refine OPH_ok (v := ms_en (ms_wat (d 46 0) b C k (-1))) h (GF_r d) (GF_thrown (v := 0)) u3s (fun n o hn => ?_) (fun n o => ?_)
      · refine EV_bk (k := 400) ?_
        rw [bk_95_0, ec_reqBank hl hn hB, if_pos zb]
        simp only [ev_bv, hl 27 0 4 rfl (by decide) (by decide), L8, cond_true]
        rw [ec_inLineOf hl (i := 1) (by decide) hs (by omega) (by omega)]
        rfl
      · refine EV_bk (k := 400) ?_
        rw [bk_200_0, em_noBank hl t0 b4, if_pos zb]
        simp only [ev_bi, ↓reduceIte]
        rw [if_neg (Int32.not_lt.mpr z.1), if_pos (show Int32.ofNat k < 40 from z.2), em_waitingAt hl (C := C) (by rw [u3n (by decide), cs_w9 hs]) (cs_C hs) (by omega), u3n (by decide)]
    · refine OPH_ok (v := -1) h (GF_r d) (GF_thrown (v := 0)) u3s (fun n o hn => ?_) (fun n o => ?_)
      · refine EV_bk (k := 400) ?_
        rw [bk_95_0, ec_reqBank hl hn hB, if_pos zb]
        simp only [ev_bv, hl 27 0 4 rfl (by decide) (by decide), L8, cond_true]
        rw [ec_inLineNo hl (i := 1) (by decide) hs (by omega) (fun a ha e => by
          subst e
          exact z ⟨ni_lo (by omega), (ni_lt (by omega) (by omega)).mpr ha⟩)]
        rfl
      · refine EV_bk (k := 400) ?_
        rw [bk_200_0, em_noBank hl t0 b4, if_pos zb]
        simp only [ev_bi, ↓reduceIte]
        by_cases z1 : y < 0
        · rw [if_pos z1]
        · rw [if_neg z1, if_neg (show ¬ y < 40 from fun v => z ⟨Int32.not_lt.mp z1, v⟩)]
  · refine OPH_no (E := 1) (v := 0) h (GF_thrown (v := 1)) (by decide) (by decide) u3s (fun n o hn => ?_) (fun n o => ?_)
    · refine EV_bk (k := 400) ?_
      rw [bk_95_0, ec_reqBank hl hn hB, if_neg zb]
      rfl
    · refine EV_bk (k := 400) ?_
      rw [bk_200_0, em_noBank hl t0 b4, if_neg zb]
      simp (decide := true) only [ev_bi, ↓reduceIte]
end EC23
