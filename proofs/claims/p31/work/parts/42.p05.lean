/-! THE LAW'S METHODS, 5: state, the rows of a bank -/
variable {σ : Int32}
theorem rem_w {t w w' : Nat → Int32} {b r : Nat} (h : ∀ j, j < 615 → w' j = w j) (hb : b < 4) (hr : r < 16) : ms_rem t w' b r = ms_rem t w b r := by
  have hc : ms_cool t w' (16 * b + r) = ms_cool t w (16 * b + r) := cool_AG (h 8 (by omega))
  unfold ms_rem ms_bound ms_hot
  rw [hc, h 3 (by omega), h _ (by omega), h _ (by omega)]
theorem bound_w {t w w' : Nat → Int32} {b r : Nat} (h : ∀ j, j < 615 → w' j = w j) (hb : b < 4) (hr : r < 16) : ms_bound t w' b r = ms_bound t w b r := by
  have hc : ms_cool t w' (16 * b + r) = ms_cool t w (16 * b + r) := cool_AG (h 8 (by omega))
  unfold ms_bound ms_hot
  rw [hc, h 3 (by omega), h _ (by omega)]
theorem rwv_GF {d d' : Nat → Nat → Nat → Int32} {b r k : Nat} (h : GF d d') (hb : b < 4) (hr : r < 16) : ol_rwv d' b r k = ol_rwv d b r k := by
  have e45 : d' 45 0 = d 45 0 := h.2.2.2.2.1.1
  have e46 := h.2.2.2.2.1.2.1
  unfold ol_rwv
  split
  · exact e46 _ (by omega)
  · rw [e45]; exact bound_w e46 hb hr
  · rw [e45]; exact rem_w e46 hb hr
  · exact e46 _ (by omega)
  · exact e46 _ (by omega)
  · exact e46 _ (by omega)
  · exact e46 _ (by omega)
  · rw [h.2.1 25 (by decide) (by decide)]
  · rw [h.2.1 26 (by decide) (by decide)]
section ST3
variable {lk : Nat → Nat → Nat → Bool} {d : Nat → Nat → Nat → Int32} {wn : Nat} {tt : Nat → Nat} {e : Nat → Nat → Nat → Int32} {q : Nat → Nat → Nat → Nat} {i B R C τ : Nat} {P : ev_O × ev_M → Prop}
/-- the nine numbers of a row -/
theorem st_rv (hl : LK lk) (hR : LR σ d e i B R C τ) (hi : i + 45 ≤ wn) {b r i8 i9 i12 : Nat} (hb : b < B) (hr : r < R) (he : ∀ k, k < 9 → e 209 i12 k = ol_rwv d b r k) {y2 y3 y4 y5 y6 y11 : Int32} {c s : Nat} (hc : c + 18 ≤ 1200) (hs : s + 108 ≤ 7200)
    (kk : ∀ d' c' s' z, GF d d' → c' ≤ c + 18 → s' ≤ s + 108 → ER (279, 438, [ev_R 27 0, ev_R 200 i, ev_I y2, ev_I y3, ev_I y4, ev_I y5, ev_I y6, ev_I (Int32.ofNat b), ev_R 201 i8, ev_R 209 i9, ev_I (Int32.ofNat r), ev_I y11, ev_R 209 i12, ev_I z], [], c', s') (384, lk, d', wn, tt, e, q) P) :
    ER (279, 405, [ev_R 27 0, ev_R 200 i, ev_I y2, ev_I y3, ev_I y4, ev_I y5, ev_I y6, ev_I (Int32.ofNat b), ev_R 201 i8, ev_R 209 i9, ev_I (Int32.ofNat r), ev_I y11, ev_R 209 i12, ev_I 0], [], c, s) (384, lk, d, wn, tt, e, q) P := by
  obtain ⟨b4, -, -, r6, h39, -⟩ := hR.bds
  have loop : ∀ j k, k + j = 9 → ∀ d' c' s', GF d d' → c' + 2 * j ≤ c + 18 → s' + 12 * j ≤ s + 108 → ER (279, 405, [ev_R 27 0, ev_R 200 i, ev_I y2, ev_I y3, ev_I y4, ev_I y5, ev_I y6, ev_I (Int32.ofNat b), ev_R 201 i8, ev_R 209 i9, ev_I (Int32.ofNat r), ev_I y11, ev_R 209 i12, ev_I (Int32.ofNat k)], [], c', s') (384, lk, d', wn, tt, e, q) P := by
    intro j
    induction j with
    | zero =>
      intro k hk d' c' s' g1 g2 g3
      have e9 : k = 9 := by omega
      subst e9
      refine ER_bk ?_
      rw [bk_279_405, if_neg (by decide)]
      exact kk d' c' s' _ g1 (by omega) (by omega)
    | succ j ih =>
      intro k hk d' c' s' g1 g2 g3
      obtain ⟨-, T, hG, -⟩ := LR_GF hR g1
      obtain ⟨d2, gf, eq⟩ := gl_call (wn, tt, e, q) (ol_row hl hG hb hr (k := k) (by omega))
      have ev : e 209 i12 k = ol_rwv d' b r k := by
        rw [he k (by omega)]
        exact (rwv_GF g1 (by omega) (by omega)).symm
      refine ER_bk ?_
      rw [bk_279_405, if_pos (show Int32.ofNat k < 9 from (ni_lt (b := 9) (by omega) (by omega)).mpr (by omega)), ble2 (by omega) (by omega), cond_true, eq]
      simp only [ni_in (n := k) (N := 9) (by omega) (by omega), ni_c (n := k) (by omega), cond_true, ev, if_pos rfl, ni_1]
      exact ih (k + 1) (by omega) d2 _ _ (GF_t g1 gf) (by omega) (by omega)
  exact loop 9 0 (by omega) d c s (GF_r d) (by omega) (by omega)
/-- all rows of a bank -/
theorem st_rows (hl : LK lk) (hq : LQ q i) (hR : LR σ d e i B R C τ) (hi : i + 45 ≤ wn) {b i9 : Nat} (hb : b < B) {y2 y4 a : Int32} {sw : Int32 × Int32} {c s : Nat} (hc : c + 19 * R ≤ 1200) (hs : s + 117 * R ≤ 7200)
    (kk : ∀ wn' tt' d' e' q' c' s', KF wn d e q wn' d' e' q' → c' ≤ c + 19 * R → s' ≤ s + 117 * R → ER (279, 18, [ev_R 27 0, ev_R 200 i, ev_I y2, ev_I (lr (d 46 0) b a R), ev_I y4, ev_I (ms_up (d 45 0) (d 46 0) b sw R).1, ev_I (ms_up (d 45 0) (d 46 0) b sw R).2, ev_I (Int32.ofNat (b + 1))], [], c', s') (384, lk, d', wn', tt', e', q') P) :
    ER (279, 235, [ev_R 27 0, ev_R 200 i, ev_I y2, ev_I a, ev_I y4, ev_I sw.1, ev_I sw.2, ev_I (Int32.ofNat b), ev_R 201 (i + 9 + 9 * b), ev_R 209 i9, ev_I 0], [], c, s) (384, lk, d, wn, tt, e, q) P := by
  obtain ⟨b4, -, -, r6, h39, -⟩ := hR.bds
  have hb4 : b < 4 := by omega
  have loop : ∀ j r, r + j = R → ∀ wn' tt' d' e' q' c' s', KF wn d e q wn' d' e' q' → c' + 19 * j ≤ c + 19 * R → s' + 117 * j ≤ s + 117 * R → ER (279, 235, [ev_R 27 0, ev_R 200 i, ev_I y2, ev_I (lr (d 46 0) b a r), ev_I y4, ev_I (ms_up (d 45 0) (d 46 0) b sw r).1, ev_I (ms_up (d 45 0) (d 46 0) b sw r).2, ev_I (Int32.ofNat b), ev_R 201 (i + 9 + 9 * b), ev_R 209 i9, ev_I (Int32.ofNat r)], [], c', s') (384, lk, d', wn', tt', e', q') P := by
    intro j
    induction j with
    | zero =>
      intro r hr wn' tt' d' e' q' c' s' g1 g2 g3
      have er : r = R := by omega
      subst er
      obtain ⟨-, T, hG, ⟨u, K, hV, -⟩, -⟩ := g1.LR hi hR
      have e1 : e' 200 i 1 = Int32.ofNat r := (hV _ _ _ _ _ (la_f (k := 1) (by omega))).trans hG.2.1.1.2.1
      refine ER_bk ?_
      rw [bk_279_235, e1, if_neg (fun z => Int32.lt_irrefl z)]
      refine ER_bk ?_
      rw [bk_279_501, ni_1]
      exact kk wn' tt' d' e' q' c' s' g1 (by omega) (by omega)
    | succ j ih =>
      intro r hr wn' tt' d' e' q' c' s' g1 g2 g3
      have hR' := g1.LR hi hR
      have hq' := g1.LQ hi hq
      have hi' : i + 45 ≤ wn' := Nat.le_trans hi g1.1
      obtain ⟨-, T, hG, ⟨u, K, hV, -⟩, -⟩ := id hR'
      have e1 : e' 200 i 1 = Int32.ofNat R := (hV _ _ _ _ _ (la_f (k := 1) (by omega))).trans hG.2.1.1.2.1
      obtain ⟨-, m13, -⟩ := hq'.2 b hb4
      have next : ∀ y11 : Int32, (y11 = if e' 205 (i + 9 + 9 * b + 1) r ≤ 0 then 0 else 1) → ER (279, 262, [ev_R 27 0, ev_R 200 i, ev_I y2, ev_I (lr (d 46 0) b a r), ev_I y4, ev_I (ms_up (d 45 0) (d 46 0) b sw r).1, ev_I (ms_up (d 45 0) (d 46 0) b sw r).2, ev_I (Int32.ofNat b), ev_R 201 (i + 9 + 9 * b), ev_R 209 i9, ev_I (Int32.ofNat r), ev_I y11], [], c', s') (384, lk, d', wn', tt', e', q') P := fun y11 h11 => by
        refine st_row hq' hR' hi' hb (by omega) (by omega) (by omega) h11 fun e2 a1 a2 => ?_
        have k2 : KF wn' d' e' q' (wn' + 1) d' e2 (ev_z3 q' 209 wn') := ⟨by omega, GF_r _, a2, fun r x p hx => z3_ne (by omega)⟩
        have hR2 := k2.LR hi' hR'
        refine st_rv hl hR2 (by omega) hb (by omega) a1 (by omega) (by omega) fun d3 c3 s3 z f1 f2 f3 => ?_
        have k3 := (g1.tr k2).tr (KF.look f1)
        have hR3 := k3.LR hi hR
        have hq3 := k3.LQ hi hq
        obtain ⟨-, T3, hG3, ⟨u3, K3, hV3, -, -, -, -, hBL3, -⟩, -⟩ := id hR3
        obtain ⟨-, -, -, -, -, -, -, -, m20⟩ := hq3.2 b hb4
        have e45 : d3 45 0 = d 45 0 := k3.2.1.2.2.2.2.1.1
        have e46 := k3.2.1.2.2.2.2.1.2.1
        have ao : e2 206 (i + 9 + 9 * b + 8) r = d3 46 0 (55 + 5 * (16 * b + r) + 1) := hV3 _ _ _ _ _ (la_lost hb4 (by omega))
        have er := lm_remains (n := 384) (lk := lk) (d := d3) (wn := wn' + 1) (tt := ev_n1 tt' wn' 209) hq3 hV3 hb4 (r := r) (by omega)
        rw [e45, rem_w e46 hb4 (by omega)] at er
        have lst : ∀ y : Int32, y = lr (d 46 0) b a (r + 1) → ER (279, 457, [ev_R 27 0, ev_R 200 i, ev_I y2, ev_I y, ev_I y4, ev_I (ms_up (d 45 0) (d 46 0) b sw r).1, ev_I (ms_up (d 45 0) (d 46 0) b sw r).2, ev_I (Int32.ofNat b), ev_R 201 (i + 9 + 9 * b), ev_R 209 i9, ev_I (Int32.ofNat r), ev_I y11, ev_R 209 wn', ev_I z], [], c3, s3) (384, lk, d3, wn' + 1, ev_n1 tt' wn' 209, e2, ev_z3 q' 209 wn') P := fun y hy => by
          have e := ih (r + 1) (by omega) (wn' + 1) (ev_n1 tt' wn' 209) d3 e2 (ev_z3 q' 209 wn') c3 s3 k3 (by omega) (by omega)
          rw [← ms_up_S, ← hy] at e
          refine ER_bk ?_
          rw [bk_279_457, ble2 (by omega) (by omega), cond_true, er]
          simp only [ev_bi]
          by_cases cz : ms_rem (d 45 0) (d 46 0) b r < (ms_up (d 45 0) (d 46 0) b sw r).2
          · rw [if_pos cz] at e
            rw [if_pos cz]
            refine ER_bk ?_
            rw [bk_279_480, ble2 (by omega) (by omega), cond_true, er]
            simp only [ev_bi, ni_1, if_pos cz]
            exact e
          · rw [if_neg cz] at e
            rw [if_neg cz]
            refine ER_bk ?_
            rw [bk_279_480, ble2 (by omega) (by omega), cond_true, er]
            simp only [ev_bi, ni_1, if_neg cz]
            exact e
        refine ER_bk ?_
        rw [bk_279_438, m20, ev_lq_s, ni_in (n := r) (N := 16) (by omega) (by omega), cond_true, ni_c (n := r) (by omega), ao]
        have hstep : lr (d 46 0) b a (r + 1) = lr (d 46 0) b a r + d3 46 0 (55 + 5 * (16 * b + r) + 1) := by rw [e46 _ (by omega)]; rfl
        rcases hBL3 (16 * b + r) (by omega) with z | z
        · rw [if_pos z]
          exact lst _ (by rw [hstep, z])
        · rw [if_neg (by rw [z]; decide)]
          exact lst _ (by rw [hstep, z])
      refine ER_bk ?_
      rw [bk_279_235, e1, if_pos ((ni_lt (by omega) (by omega)).mpr (by omega)), m13, ev_lq_s, ni_in (n := r) (N := 16) (by omega) (by omega), cond_true, ni_c (n := r) (by omega)]
      by_cases z : e' 205 (i + 9 + 9 * b + 1) r ≤ 0
      · rw [if_pos z]
        exact next 0 (by rw [if_pos z])
      · rw [if_neg z]
        exact next 1 (by rw [if_neg z])
  have e0 : ms_up (d 45 0) (d 46 0) b sw 0 = sw := rfl
  have h := loop R 0 (by omega) wn tt d e q c s KF.rf (by omega) (by omega)
  rw [e0] at h
  exact h
end ST3
