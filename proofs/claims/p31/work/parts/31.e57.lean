/-! THE PROGRAM AGAINST THE REFERENCE, 43: set, setTrading, pass, trade -/
theorem ms_moves_rg {w : Nat → Int32} {b k x τ : Nat} (hx : ms_rg (w (19 + 9 * x + 0)) (-(8 + τ)) (8 + τ)) (hb : ms_rg (w (19 + 9 * b + 0)) (-(8 + τ)) (8 + τ)) (hk : ms_rg (w (19 + 9 * k + 0)) (-(8 + τ)) (8 + τ)) (c7 : ms_rg (w 1) 1 8) (c8 : ms_rg (w 2) 0 8) (hτ : τ ≤ 3000)
    (h1 : -(w 2) < w (19 + 9 * b + 0)) (h2 : w (19 + 9 * k + 0) < w 1) : ms_rg (ms_moves w b k (19 + 9 * x + 0)) (-(8 + τ)) (8 + τ) := by
  obtain ⟨x1, x2⟩ := hx
  obtain ⟨b1, b2⟩ := hb
  obtain ⟨k1, k2⟩ := hk
  obtain ⟨y1, y2⟩ := c7
  obtain ⟨z1, z2⟩ := c8
  rw [i32_lt, i32_neg (by omega)] at h1
  rw [i32_lt] at h2
  have t1 : (1 : Int32).toInt = 1 := by decide
  have t2 : (-1 : Int32).toInt = -1 := by decide
  have em : (w (19 + 9 * b + 0) + -1).toInt = (w (19 + 9 * b + 0)).toInt + -1 := by
    rw [i32_add (by rw [t2]; omega) (by rw [t2]; omega), t2]
  have s1 : ms_moves w b k (19 + 9 * x + 0) = if x = k then (if x = b then w (19 + 9 * b + 0) + -1 else w (19 + 9 * x + 0)) + 1 else if x = b then w (19 + 9 * b + 0) + -1 else w (19 + 9 * x + 0) := by
    unfold ms_moves
    rw [u1n (k := 15) (by omega), u1n (k := 19 + 9 * k + 5) (by omega)]
    by_cases e1 : x = k
    · subst e1
      rw [u1s, u1n (k := 19 + 9 * b + 4) (by omega), if_pos rfl]
      by_cases e2 : x = b
      · subst e2
        rw [u1s, if_pos rfl]
      · rw [u1n (by omega), if_neg e2]
    · rw [u1n (by omega), u1n (k := 19 + 9 * b + 4) (by omega), if_neg e1]
      by_cases e2 : x = b
      · subst e2
        rw [u1s, if_pos rfl]
      · rw [u1n (by omega), if_neg e2]
  rw [s1]
  unfold ms_rg
  by_cases e1 : x = k
  · subst e1
    rw [if_pos rfl]
    by_cases e2 : x = b
    · subst e2
      rw [if_pos rfl, i32_add (by rw [em, t1]; omega) (by rw [em, t1]; omega), em, t1]
      omega
    · rw [if_neg e2, i32_add (by rw [t1]; omega) (by rw [t1]; omega), t1]
      omega
  · rw [if_neg e1]
    by_cases e2 : x = b
    · subst e2
      rw [if_pos rfl, em]
      omega
    · rw [if_neg e2]
      omega
theorem SI_moves {w : Nat → Int32} {B R C T τ b k : Nat} (h : SI w B R C T τ) (hb : b < 4) (hk : k < 4) (h1 : -(w 2) < w (19 + 9 * b + 0)) (h2 : w (19 + 9 * k + 0) < w 1) : SI (ms_moves w b k) B R C T τ := by
  obtain ⟨⟨c1, c2, c3⟩, c4, ⟨c5, c5'⟩, ⟨c6, c7, c8, c9⟩, c10, c11, c12, c13⟩ := h
  have hh : ∀ j, j ≠ 15 → (j < 19 ∨ 55 ≤ j) → ms_moves w b k j = w j := fun j h15 hj => ms_moves_n h15 (by omega)
  have h3 : ∀ x, ms_moves w b k (19 + 9 * x + 2) = w (19 + 9 * x + 2) := fun x => ms_moves_n (by omega) (by omega)
  refine ⟨⟨c1, c2, fun q a b => ?_⟩, fun q hq => ?_, ⟨?_, c5'⟩, ⟨?_, ?_, ?_, ?_⟩, fun x hx => ?_, fun c hc => ?_, fun x hx => ?_, ?_⟩
  · rw [hh _ (by omega) (by omega)]; exact c3 q a b
  · rw [hh _ (by omega) (by omega), hh _ (by omega) (by omega)]; exact c4 q hq
  · rw [hh _ (by omega) (by omega)]; exact c5
  · rw [hh _ (by omega) (by omega)]; exact c6
  · rw [hh _ (by omega) (by omega)]; exact c7
  · rw [hh _ (by omega) (by omega)]; exact c8
  · exact ⟨by rw [hh _ (by omega) (by omega)]; exact c9.1, by rw [hh _ (by omega) (by omega)]; exact c9.2⟩
  · exact ms_moves_rg (c10 x hx) (c10 b hb) (c10 k hk) c7 c8 c5' h1 h2
  · rw [hh _ (by omega) (by omega)]; exact c11 c hc
  · rw [h3, c12 x hx, ms_many_c (w' := ms_moves w b k) (w := w) (fun q hq => by rw [hh _ (by omega) (by omega), hh _ (by omega) (by omega)])]
  · rw [hh _ (by omega) (by omega)]; exact c13
section EC32
variable {n : Nat} {lk : Nat → Nat → Nat → Bool} {d : Nat → Nat → Nat → Int32} {o : ev_W}
theorem op_set (hl : LK lk) (h : GI d) {x y : Int32} : OPH (110, 0, [ev_R 27 0, ev_I x, ev_I y], [], 0, 0) (216, 0, [ev_R 44 0, ev_I x, ev_I y], [], 0, 0) kf_A lk d := by
  by_cases zx : 0 ≤ x ∧ x ≤ 6
  · obtain ⟨k, hk, ex⟩ := ni_of2 6 (by omega) zx.1 zx.2
    subst ex
    have x0 : ¬ Int32.ofNat k < 0 := Int32.not_lt.mpr zx.1
    have x7 : Int32.ofNat k < 7 := (ni_lt (b := 7) (by omega) (by omega)).mpr (by omega)
    obtain ⟨L, hL2, hL⟩ := ev_sa0_n k (by omega)
    obtain ⟨H, hH4, hH1, hH, hH0⟩ := ev_sa1_n k (by omega)
    by_cases z : ev_sa 0 k ≤ y ∧ y ≤ ev_sa 1 k
    · have z0 : 0 ≤ y := Int32.le_trans (by rw [hL]; exact ni_lo (by omega)) z.1
      obtain ⟨v, hv, ey⟩ := ni_of2 H (by omega) z0 (by rw [← hH]; exact z.2)
      subst ey
      obtain ⟨B, R, T, C, τ, c, ⟨g1, g2, g3, g4, hτ, hc10, hu⟩, hrem⟩ := ec_remG hl h
      obtain ⟨⟨K, hs⟩, -⟩ := id g4
      intro n o hn
      obtain ⟨d1, e1, s1, w1, sc1, ⟨q44, q45, q46, q24, qs⟩, fin⟩ := hrem n o
      have s2 := GS_set s1 (k := k) (v := v) (by omega) z.1 z.2 (by omega)
      obtain ⟨d3, e3, kp⟩ := em_keeps (n := n) (o := o) (d := ev_u3 (ev_u3 d1 1 1 k (Int32.ofNat v)) 44 0 0 0) hl (c := c) (by rw [u3x (by decide), u3n (by decide), q44]; exact hu) hc10
      have c46 : d3 46 = d 46 := by rw [kp.1 46 (by decide) (by decide), u3n (by decide), u3n (by decide), q46]
      obtain ⟨f1, f2, f3, f4⟩ := fin (ev_u3 d1 1 1 k (Int32.ofNat v)) d3 (ev_u3 d3 46 0 k (Int32.ofNat v)) _ C τ (FT_01 (by decide)) s2 hτ kp (fun r h1 h2 => u3n h1) (fun j hj => by rw [u3r, c46])
      refine .inl ⟨d 46 0 k, ev_u3 d1 1 1 k (Int32.ofNat v), ev_u3 d3 46 0 k (Int32.ofNat v), f3, f1, f2, f4, ?_, ?_⟩
      · refine EV_bk (k := 400) ?_
        rw [bk_110_0, if_neg x0, if_pos x7]
        simp only [ni_in (n := k) (N := 7) (by omega) (by omega), ni_c (n := k) (by omega), cond_true]
        rw [if_neg (Int32.not_lt.mpr z.1), if_pos z.2]
        simp only [hl 27 0 6 rfl (by decide) (by decide), hl 27 0 4 rfl (by decide) (by decide), cond_true]
        rw [e1]
        simp only [ev_bv, hl 27 0 4 rfl (by decide) (by decide), show lk 0 1 4 = true from hl 0 1 4 rfl (by decide) (by decide), cond_true]
        rw [qs 1 (by decide), cs_1 hs (by omega)]
      · refine EV_bk (k := 400) ?_
        rw [bk_216_0, em_noSetting, if_pos zx]
        simp only [ev_bi, ↓reduceIte]
        rw [em_lowOf (by omega)]
        simp only []
        rw [em_highOf (by omega)]
        simp only []
        rw [em_in z]
        simp (decide := true) only [↓reduceIte]
        rw [em_throws0 u3s]
        simp (decide := true) only [↓reduceIte]
        rw [e3]
        simp only [ev_bv, hl 44 0 2 rfl (by decide) (by decide), cond_true, Int32.zero_add, ni_in (n := k) (N := 615) (by omega) (by omega), ni_c (n := k) (by omega)]
        rw [c46]
    · refine OPH_no (E := 0) (v := 0) h (GF_thrown (v := 1)) (by decide) (by decide) u3s (fun n o hn => ?_) (fun n o => ?_)
      · refine EV_bk (k := 400) ?_
        rw [bk_110_0, if_neg x0, if_pos x7, Nat.ble_eq.mpr hn, cond_true]
        simp only [ni_in (n := k) (N := 7) (by omega) (by omega), ni_c (n := k) (by omega), cond_true]
        by_cases y1 : y < ev_sa 0 k
        · rw [if_pos y1]
        · rw [if_neg y1, if_neg (fun v => z ⟨Int32.not_lt.mp y1, v⟩)]
      · refine EV_bk (k := 400) ?_
        rw [bk_216_0, em_noSetting, if_pos zx]
        simp only [ev_bi, ↓reduceIte]
        rw [em_lowOf (by omega)]
        simp only []
        rw [em_highOf (by omega)]
        simp only []
        rw [em_out z]
        simp (decide := true) only [↓reduceIte]
        rw [em_throws1 u3s (by decide), u3u]
        simp (decide := true) only [↓reduceIte]
  · refine OPH_no (E := 0) (v := 0) h (GF_thrown (v := 1)) (by decide) (by decide) u3s (fun n o hn => ?_) (fun n o => ?_)
    · refine EV_bk (k := 400) ?_
      rw [bk_110_0, Nat.ble_eq.mpr hn, cond_true]
      by_cases y0 : x < 0
      · rw [if_pos y0]
      · have y2 : ¬ x < 7 := fun v => zx ⟨Int32.not_lt.mp y0, by
          rw [i32_lt, show (7 : Int32).toInt = 7 from by decide] at v
          rw [i32_le, show (6 : Int32).toInt = 6 from by decide]
          omega⟩
        rw [if_neg y0, if_neg y2]
    · refine EV_bk (k := 400) ?_
      rw [bk_216_0, em_noSetting, if_neg zx]
      simp (decide := true) only [ev_bi, ↓reduceIte]
theorem op_setTrading (hl : LK lk) (h : GI d) {x : Int32} (hx : x = 0 ∨ x = 1) : OPN (111, 0, [ev_R 27 0, ev_I x], [], 0, 0) (217, 0, [ev_R 44 0, ev_I x], [], 0, 0) lk d := by
  obtain ⟨B, R, T, C, τ, c, ⟨g1, g2, g3, g4, hτ, hc10, hu⟩, hrem⟩ := ec_remG hl h
  obtain ⟨⟨K, hs⟩, hI⟩ := id g4
  have w7 := hI.2.2.2.1.2.2.2.1
  intro n o hn
  obtain ⟨d1, e1, s1, w1, sc1, ⟨q44, q45, q46, q24, qs⟩, fin⟩ := hrem n o
  have s2 := GS_trading s1 hx
  obtain ⟨d3, e3, kp⟩ := em_keeps (n := n) (o := o) (d := ev_u3 (ev_u3 d1 0 1 1 x) 44 0 0 0) hl (c := c) (by rw [u3x (by decide), u3n (by decide), q44]; exact hu) hc10
  have c46 : d3 46 = d 46 := by rw [kp.1 46 (by decide) (by decide), u3n (by decide), u3n (by decide), q46]
  obtain ⟨f1, f2, f3, f4⟩ := fin (ev_u3 d1 0 1 1 x) d3 (ev_u3 d3 46 0 7 x) _ C τ (FT_01 (by decide)) s2 hτ kp (fun r h1 h2 => u3n h1) (fun j hj => by rw [u3r, c46])
  refine ⟨d 46 0 7, ev_u3 d1 0 1 1 x, ev_u3 d3 46 0 7 x, f3, f1, f2, ?_, ?_⟩
  · have okx : ev_ok 2 x = true := by
      rcases hx with z | z <;> rw [z] <;> rfl
    have okw : ev_ok 2 (d 46 0 7) = true := by
      rcases w7 with z | z <;> rw [z] <;> rfl
    refine EV_bk (k := 400) ?_
    rw [bk_111_0, hl 27 0 6 rfl (by decide) (by decide), cond_true, hl 27 0 4 rfl (by decide) (by decide), cond_true, e1]
    simp only [ev_bv, hl 27 0 4 rfl (by decide) (by decide), cond_true, okx]
    rw [qs 0 (by decide), cs_tr hs, okw, cond_true]
  · refine EV_bk (k := 400) ?_
    rw [bk_217_0, e3]
    simp only [ev_bv, hl 44 0 2 rfl (by decide) (by decide), cond_true]
    rw [c46]
    rcases w7 with z | z
    · rw [if_neg (by rw [z]; decide)]
      rcases hx with y | y
      · rw [if_pos y, z, y]
      · rw [if_neg (by rw [y]; decide), z, y]
    · rw [if_pos z]
      rcases hx with y | y
      · rw [if_pos y, z, y]
      · rw [if_neg (by rw [y]; decide), z, y]
theorem op_pass (hl : LK lk) (h : GI d) {x : Int32} : OPH (107, 0, [ev_R 27 0, ev_I x], [], 0, 0) (213, 0, [ev_R 44 0, ev_I x], [], 0, 0) kf_D lk d := by
  obtain ⟨B, R, T, C, τ, c, ⟨g1, g2, g3, g4, hτ, hc10, hu⟩, hrem⟩ := ec_remG hl h
  obtain ⟨⟨K, hs⟩, hI⟩ := id g4
  by_cases z : 1 ≤ x ∧ x ≤ 200
  · obtain ⟨k, hk, ex⟩ := ni_of2 200 (by omega) (Int32.le_trans (by decide) z.1) z.2
    subst ex
    have x1 : ¬ Int32.ofNat k < 1 := Int32.not_lt.mpr z.1
    have tk : d 46 0 8 + Int32.ofNat k = Int32.ofNat (τ + k) := by rw [hI.2.2.1.1, ni_a]
    by_cases zt : τ + k ≤ 2000
    · have zt' : Int32.ofNat (τ + k) ≤ 2000 := (ni_le (b := 2000) (by omega) (by omega)).mpr zt
      obtain ⟨S, hS4, hS⟩ := hI.2.2.2.1.1
      intro n o hn
      obtain ⟨d1, e1, s1, w1, sc1, ⟨q44, q45, q46, q24, qs⟩, fin⟩ := hrem n o
      obtain ⟨d2, e2, ft, s2, -⟩ := ec_run (n := n) (o := o) hl (i := 1) (by decide) (k := k) s1 w1 g1 hS hS4 (by omega)
      have p44 : d2 44 = d1 44 := funext fun j => ft 44 j (.inl (by omega))
      have p45 : d2 45 = d1 45 := funext fun j => ft 45 j (.inl (by omega))
      have p46 : d2 46 = d1 46 := funext fun j => ft 46 j (.inl (by omega))
      obtain ⟨d3, e3, kp⟩ := em_keeps (n := n) (o := o) (d := ev_u3 d2 44 0 0 0) hl (c := c) (by rw [u3x (by decide), p44, q44]; exact hu) hc10
      have c46 : d3 46 = d 46 := by rw [kp.1 46 (by decide) (by decide), u3n (by decide), p46, q46]
      have c45 : d3 45 = d 45 := by rw [kp.1 45 (by decide) (by decide), u3n (by decide), p45, q45]
      obtain ⟨d4, e4, m4, sm4, -⟩ := em_lossesIn (n := n) (o := o) hl (d := d3) (k := k) (ms_OK_c (GS_OK g1 g4 hS hS4) (by rw [c45]) (by rw [c46])) (by omega)
      rw [c45, c46] at m4
      rw [m4, c46] at e4
      obtain ⟨f1, f2, f3, f4⟩ := fin d2 d3 d4 _ C (τ + k) ft s2 zt kp (fun r h1 h2 => sm4 r h1 (by omega) (by omega) (by omega) (by omega) (by omega) (by omega)) (fun j hj => by rw [m4])
      refine .inl ⟨ms_ticks (d 45 0) (d 46 0) C R B S k 14 - d 46 0 14, d2, d4, f3, f1, f2, f4, ?_, ?_⟩
      · refine EV_bk (k := 400) ?_
        rw [bk_107_0, if_neg x1, if_pos (show Int32.ofNat k ≤ 200 from z.2), hl 27 0 4 rfl (by decide) (by decide), cond_true, cs_tm hs, tk, if_pos zt', hl 27 0 6 rfl (by decide) (by decide), cond_true, cond_true, e1]
        simp only [ev_bv, hl 27 0 2 rfl (by decide) (by decide), hl 27 0 4 rfl (by decide) (by decide), cond_true]
        rw [e2]
        rfl
      · refine EV_bk (k := 400) ?_
        rw [bk_213_0, em_in z]
        simp (decide := true) only [ev_bi, ↓reduceIte]
        rw [em_throws0 u3s]
        simp (decide := true) only [↓reduceIte, hl 44 0 2 rfl (by decide) (by decide), cond_true]
        rw [if_pos (show ev_u3 d2 44 0 0 0 46 0 8 + Int32.ofNat k ≤ 2000 by rw [u3n (by decide), p46, q46, tk]; exact zt'), em_throws0 u3s]
        simp (decide := true) only [↓reduceIte]
        rw [e3]
        simp only [ev_bv]
        rw [e4]
    · have zt' : ¬ Int32.ofNat (τ + k) ≤ 2000 := fun v => zt ((ni_le (b := 2000) (by omega) (by omega)).mp v)
      refine OPH_no (E := 2) (v := 0) h (GF_thrown (v := 2)) (by decide) (by decide) u3s (fun n o hn => ?_) (fun n o => ?_)
      · refine EV_bk (k := 400) ?_
        rw [bk_107_0, if_neg x1, if_pos (show Int32.ofNat k ≤ 200 from z.2), hl 27 0 4 rfl (by decide) (by decide), cond_true, cs_tm hs, tk, if_neg zt', Nat.ble_eq.mpr hn, cond_true]
      · refine EV_bk (k := 400) ?_
        rw [bk_213_0, em_in z]
        simp (decide := true) only [ev_bi, ↓reduceIte]
        rw [em_throws0 u3s]
        simp (decide := true) only [↓reduceIte, hl 44 0 2 rfl (by decide) (by decide), cond_true]
        rw [if_neg (show ¬ ev_u3 d 44 0 0 0 46 0 8 + Int32.ofNat k ≤ 2000 by rw [u3n (by decide), tk]; exact zt'), em_throws1 u3s (by decide), u3u]
        simp (decide := true) only [↓reduceIte]
  · refine OPH_no (E := 0) (v := 0) h (GF_thrown (v := 1)) (by decide) (by decide) u3s (fun n o hn => ?_) (fun n o => ?_)
    · refine EV_bk (k := 400) ?_
      rw [bk_107_0, Nat.ble_eq.mpr hn, cond_true]
      by_cases y0 : x < 1
      · rw [if_pos y0]
      · rw [if_neg y0, if_neg (fun v => z ⟨Int32.not_lt.mp y0, v⟩)]
    · refine EV_bk (k := 400) ?_
      rw [bk_213_0, em_out z]
      simp (decide := true) only [ev_bi, ↓reduceIte]
      rw [em_throws1 u3s (by decide), u3u]
      simp (decide := true) only [↓reduceIte]
end EC32
