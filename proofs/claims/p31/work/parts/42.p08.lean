/-! THE LAW'S METHODS, 8: state, whole -/
variable {σ : Int32}
section ST6
variable {lk : Nat → Nat → Nat → Bool} {d : Nat → Nat → Nat → Int32} {wn : Nat} {tt : Nat → Nat} {e : Nat → Nat → Nat → Int32} {q : Nat → Nat → Nat → Nat} {i B R C τ : Nat} {P : ev_O × ev_M → Prop}
theorem st_sz (hl : LK lk) (hR : LR σ d e i B R C τ) {i7 : Nat} (he : ∀ k, k < 10 → e 211 i7 k = szw (d 45 0) (d 46 0) C B k) {y2 y3 y4 y5 y6 : Int32} {c s : Nat} (hc : c + 10 ≤ 1200) (hs : s + 60 ≤ 7200)
    (kk : ∀ d', GF d d' → ER (279, 728, [ev_R 27 0, ev_R 200 i, ev_I y2, ev_I y3, ev_I y4, ev_I y5, ev_I y6, ev_R 211 i7, ev_I 0], [], c + 10, s + 60) (384, lk, d', wn, tt, e, q) P) :
    ER (279, 696, [ev_R 27 0, ev_R 200 i, ev_I y2, ev_I y3, ev_I y4, ev_I y5, ev_I y6, ev_R 211 i7, ev_I 0], [], c, s) (384, lk, d, wn, tt, e, q) P := by
  obtain ⟨b4, -, -, r6, h39, -⟩ := hR.bds
  have loop : ∀ j k, k + j = 10 → ∀ d' c' s', GF d d' → c' + j = c + 10 → s' + 6 * j = s + 60 → ER (279, 696, [ev_R 27 0, ev_R 200 i, ev_I y2, ev_I y3, ev_I y4, ev_I y5, ev_I y6, ev_R 211 i7, ev_I (Int32.ofNat k)], [], c', s') (384, lk, d', wn, tt, e, q) P := by
    intro j
    induction j with
    | zero =>
      intro k hk d' c' s' g1 g2 g3
      have e9 : k = 10 := by omega
      subst e9
      have ec : c' = c + 10 := by omega
      have es : s' = s + 60 := by omega
      subst ec es
      refine ER_bk ?_
      rw [bk_279_696, if_neg (by decide)]
      refine ER_bk ?_
      rw [bk_279_725]
      exact kk d' g1
    | succ j ih =>
      intro k hk d' c' s' g1 g2 g3
      obtain ⟨-, T, hG, -⟩ := LR_GF hR g1
      have ho := ol_size hl hG (k := k) (by omega)
      rw [szv_w hG] at ho
      obtain ⟨d2, gf, eq⟩ := gl_call (wn, tt, e, q) ho
      have e45 : d' 45 0 = d 45 0 := g1.2.2.2.2.1.1
      have ev : e 211 i7 k = szw (d' 45 0) (d' 46 0) C B k := by
        rw [he k (by omega), e45]
        exact (szw_w g1.2.2.2.2.1.2.1 (by omega) b4).symm
      refine ER_bk ?_
      rw [bk_279_696, if_pos (show Int32.ofNat k < 10 from (ni_lt (b := 10) (by omega) (by omega)).mpr (by omega)), ble2 (by omega) (by omega), cond_true, eq]
      simp only [ni_in (n := k) (N := 10) (by omega) (by omega), ni_c (n := k) (by omega), cond_true, ev, if_pos rfl, ni_1]
      exact ih (k + 1) (by omega) d2 _ _ (GF_t g1 gf) (by omega) (by omega)
  exact loop 10 0 (by omega) d c s (GF_r d) (by omega) (by omega)
theorem st_set (hl : LK lk) (hq : LQ q i) (hR : LR σ d e i B R C τ) {i7 : Nat} {y2 y3 y4 y5 y6 : Int32} {c s : Nat} (hc : c + 7 ≤ 1200) (hs : s + 42 ≤ 7200)
    (kk : ∀ d', GF d d' → ER (279, 762, [ev_R 27 0, ev_R 200 i, ev_I y2, ev_I y3, ev_I y4, ev_I y5, ev_I y6, ev_R 211 i7, ev_I 0], [], c + 7, s + 42) (384, lk, d', wn, tt, e, q) P) :
    ER (279, 728, [ev_R 27 0, ev_R 200 i, ev_I y2, ev_I y3, ev_I y4, ev_I y5, ev_I y6, ev_R 211 i7, ev_I 0], [], c, s) (384, lk, d, wn, tt, e, q) P := by
  have loop : ∀ j k, k + j = 7 → ∀ d' c' s', GF d d' → c' + j = c + 7 → s' + 6 * j = s + 42 → ER (279, 728, [ev_R 27 0, ev_R 200 i, ev_I y2, ev_I y3, ev_I y4, ev_I y5, ev_I y6, ev_R 211 i7, ev_I (Int32.ofNat k)], [], c', s') (384, lk, d', wn, tt, e, q) P := by
    intro j
    induction j with
    | zero =>
      intro k hk d' c' s' g1 g2 g3
      have e9 : k = 7 := by omega
      subst e9
      have ec : c' = c + 7 := by omega
      have es : s' = s + 42 := by omega
      subst ec es
      refine ER_bk ?_
      rw [bk_279_728, if_neg (by decide)]
      refine ER_bk ?_
      rw [bk_279_759]
      exact kk d' g1
    | succ j ih =>
      intro k hk d' c' s' g1 g2 g3
      obtain ⟨-, T, hG, ⟨u, K, hV, -⟩, -⟩ := LR_GF hR g1
      obtain ⟨d2, gf, eq⟩ := gl_call (wn, tt, e, q) (ol_setting hl hG (k := k) (by omega))
      have ev : e 202 (i + 1) k = d' 46 0 k := hV _ _ _ _ _ (la_set (k := k) (by omega))
      refine ER_bk ?_
      rw [bk_279_728, if_pos (show Int32.ofNat k < 7 from (ni_lt (b := 7) (by omega) (by omega)).mpr (by omega)), ble2 (by omega) (by omega), cond_true, eq]
      simp only [hq.1.1, ev_lq_s, ni_in (n := k) (N := 7) (by omega) (by omega), ni_c (n := k) (by omega), cond_true, ev, if_pos rfl, ni_1]
      exact ih (k + 1) (by omega) d2 _ _ (GF_t g1 gf) (by omega) (by omega)
  exact loop 7 0 (by omega) d c s (GF_r d) (by omega) (by omega)
theorem st_acc (hl : LK lk) (hq : LQ q i) (hR : LR σ d e i B R C τ) {i7 : Nat} {y2 y3 y4 y5 y6 : Int32} {c s : Nat} (hc : c + 6 ≤ 1200) (hs : s + 36 ≤ 7200)
    (kk : ∀ d' z, GF d d' → ER (279, 793, [ev_R 27 0, ev_R 200 i, ev_I y2, ev_I y3, ev_I y4, ev_I y5, ev_I y6, ev_R 211 i7, ev_I z], [], c + 6, s + 36) (384, lk, d', wn, tt, e, q) P) :
    ER (279, 762, [ev_R 27 0, ev_R 200 i, ev_I y2, ev_I y3, ev_I y4, ev_I y5, ev_I y6, ev_R 211 i7, ev_I 0], [], c, s) (384, lk, d, wn, tt, e, q) P := by
  have loop : ∀ j k, k + j = 6 → ∀ d' c' s', GF d d' → c' + j = c + 6 → s' + 6 * j = s + 36 → ER (279, 762, [ev_R 27 0, ev_R 200 i, ev_I y2, ev_I y3, ev_I y4, ev_I y5, ev_I y6, ev_R 211 i7, ev_I (Int32.ofNat k)], [], c', s') (384, lk, d', wn, tt, e, q) P := by
    intro j
    induction j with
    | zero =>
      intro k hk d' c' s' g1 g2 g3
      have e9 : k = 6 := by omega
      subst e9
      have ec : c' = c + 6 := by omega
      have es : s' = s + 36 := by omega
      subst ec es
      refine ER_bk ?_
      rw [bk_279_762, if_neg (by decide)]
      exact kk d' _ g1
    | succ j ih =>
      intro k hk d' c' s' g1 g2 g3
      obtain ⟨-, T, hG, ⟨u, K, hV, -⟩, -⟩ := LR_GF hR g1
      obtain ⟨d2, gf, eq⟩ := gl_call (wn, tt, e, q) (ol_account hl hG (k := k) (by omega))
      have ev : e 203 (i + 2) k = d' 46 0 (11 + k) := hV _ _ _ _ _ (la_acc (k := k) (by omega))
      refine ER_bk ?_
      rw [bk_279_762, if_pos (show Int32.ofNat k < 6 from (ni_lt (b := 6) (by omega) (by omega)).mpr (by omega)), ble2 (by omega) (by omega), cond_true, eq]
      simp only [hq.1.2.1, ev_lq_s, ni_in (n := k) (N := 6) (by omega) (by omega), ni_c (n := k) (by omega), cond_true, ev, if_pos rfl, ni_1]
      exact ih (k + 1) (by omega) d2 _ _ (GF_t g1 gf) (by omega) (by omega)
  exact loop 6 0 (by omega) d c s (GF_r d) (by omega) (by omega)
/-- a call that answers a double -/
theorem gd_call {a b : ev_F} {lk : Nat → Nat → Nat → Bool} {d d2 : Nat → Nat → Nat → Int32} {v : UInt64} (o : ev_W) (cr : CR d d2) (e1 : ∀ n o, EV a (n, lk, d, o) = some (.inl (some (ev_D v)), (n, lk, d, o))) (e2 : ∀ n o, EV b (n, lk, d, o) = some (.inl (some (ev_D v)), (n, lk, d2, o))) (K : UInt64 → ev_M → ev_T) :
    ev_bd (EV a (384, lk, d, o)) ev_no (fun z μ1 => ev_gh (EV b μ1) μ1 (fun ν => K z ν)) = K v (384, lk, d2, o) := by
  rw [e1]
  simp only [ev_bd]
  rw [e2, gh_CR cr]
theorem wb_w {t w w' : Nat → Int32} {R : Nat} {l0 : Int32} (h : ∀ j, j < 615 → w' j = w j) (hR : R ≤ 16) : ∀ B, B ≤ 4 → ms_wb t w' R l0 B = ms_wb t w R l0 B
  | 0, _ => rfl
  | B + 1, hB => by
    have hup : ∀ (sw : Int32 × Int32) R', R' ≤ 16 → ms_up t w' B sw R' = ms_up t w B sw R' := fun sw R' => by
      induction R' with
      | zero => intro _; exact (show ms_up t w' B sw 0 = sw from if_pos rfl).trans (show ms_up t w B sw 0 = sw from if_pos rfl).symm
      | succ R' ih =>
        intro h'
        rw [← ms_up_S, ← ms_up_S, ih (by omega), rem_w h (by omega) (by omega)]
    have e1 : ms_wb t w' R l0 (B + 1) = ms_up t w' B (ms_wb t w' R l0 B) R := rfl
    have e2 : ms_wb t w R l0 (B + 1) = ms_up t w B (ms_wb t w R l0 B) R := rfl
    rw [e1, e2, wb_w h hR B (by omega), hup _ R hR]
theorem st_end (hl : LK lk) (hq : LQ q i) (hR : LR σ d e i B R C τ) {i7 : Nat} {y2 y3 y4 y5 y6 z : Int32} {c s : Nat} (hc : c ≤ 1200) (hs : s ≤ 7200) (h5 : y5 = (ms_wb (d 45 0) (d 46 0) R 9999 B).1)
    (kk : ∀ d', GF d d' → P (.inl (some (ev_I 1)), (384, lk, d', wn, tt, e, q))) :
    ER (279, 793, [ev_R 27 0, ev_R 200 i, ev_I y2, ev_I y3, ev_I y4, ev_I y5, ev_I y6, ev_R 211 i7, ev_I z], [], c, s) (384, lk, d, wn, tt, e, q) P := by
  obtain ⟨b4, b1, r1, r6, h39, hτ⟩ := hR.bds
  obtain ⟨-, T, hG, -⟩ := id hR
  have hI := hG.2.2.2.2.2.2
  have g1 := hG.2.1
  have hwk : ms_weak (d 45 0) (d 46 0) 0 R < 16 := by
    rcases ms_weak_le (d 45 0) (d 46 0) 0 R with z | z <;> omega
  have hrm := ms_rem_rg (b := 0) (r := ms_weak (d 45 0) (d 46 0) 0 R) g1 (hI.2.2.2.2.2.1 (16 * 0 + ms_weak (d 45 0) (d 46 0) 0 R) (by omega)) (by omega)
  have eq5 : ms_wb (d 45 0) (d 46 0) R 1000000000 B = ms_wb (d 45 0) (d 46 0) R 9999 B := by
    have e := ms_wb_eq (t := d 45 0) (w := d 46 0) (l := 1000000000) (l' := 9999) r1 (by
      rw [i32_lt, show (1000000000 : Int32).toInt = 1000000000 from by decide]
      have := hrm.2
      omega) (by
      rw [i32_lt, show (9999 : Int32).toInt = 9999 from by decide]
      have := hrm.2
      omega) (B - 1)
    rwa [show B - 1 + 1 = B by omega] at e
  obtain ⟨d2, f2, q2⟩ := gl_call (wn, tt, e, q) (ol_weakest hl hG)
  have hR2 := LR_GF hR f2
  obtain ⟨-, T2, hG2, ⟨u2, K2, hV2, -⟩, -, hWH, -⟩ := id hR2
  have ho := ol_isWhole hl hG2
  rw [if_pos (show ms_sum (d2 46 0) B = d2 46 0 11 - d2 46 0 12 from hWH)] at ho
  obtain ⟨d3, f3, q3⟩ := gl_call (wn, tt, e, q) ho
  have hR3 := LR_GF hR2 f3
  obtain ⟨-, T3, hG3, ⟨u3, K3, hV3, -⟩, -⟩ := id hR3
  obtain ⟨d4, f4, q4⟩ := gl_call (wn, tt, e, q) (ol_greatest hl hG3)
  have e7 : e 200 i 7 = d3 46 0 18 := hV3 _ _ _ _ _ la_long
  have hR4 := LR_GF hR3 f4
  obtain ⟨-, T4, hG4, ⟨u4, K4, hV4, -⟩, -⟩ := id hR4
  obtain ⟨d5, f5, cr5, a1, a2⟩ := ol_meanWait hl hG4
  have q5 := gd_call (wn, tt, e, q) cr5 a1 a2
  have e6 : e 200 i 6 = d4 46 0 17 := hV4 _ _ _ _ _ la_waits
  have e5 : e 203 (i + 2) 5 = d4 46 0 16 := hV4 _ _ _ _ _ (la_acc (k := 5) (by omega))
  refine ER_bk ?_
  rw [bk_279_793, ble2 (by omega) (by omega)]
  simp only [cond_true]
  rw [q2, if_pos (show (ms_wb (d 45 0) (d 46 0) R 1000000000 B).1 = y5 by rw [h5, eq5]), q3, if_neg (show ¬ (1 : Int32) = 0 by decide), q4]
  simp only [e7, if_pos rfl]
  rw [q5]
  simp only [hq.1.2.1, ev_lq_s, e5, e6]
  have fin := kk d5 (GF_t (GF_t (GF_t f2 f3) f4) f5)
  by_cases c0 : d4 46 0 16 = 0
  · rw [if_pos c0, if_pos c0, if_pos fp_self0]
    exact ⟨_, rfl, fin⟩
  · rw [if_neg c0, if_neg c0, if_pos (fp_ok c0), if_pos (fp_self c0)]
    exact ⟨_, rfl, fin⟩
/-- state: all answers agree -/
theorem st_state (hl : LK lk) (hq : LQ q i) (hR : LR σ d e i B R C τ) (hi : i + 45 ≤ wn)
    (kk : ∀ wn' tt' d' e' q', KF wn d e q wn' d' e' q' → P (.inl (some (ev_I 1)), (384, lk, d', wn', tt', e', q'))) :
    ER (279, 0, [ev_R 27 0, ev_R 200 i], [], 0, 0) (384, lk, d, wn, tt, e, q) P := by
  obtain ⟨b4, b1, r1, r6, h39, hτ⟩ := hR.bds
  refine st_banks hl hq hR hi fun wn1 tt1 d1 e1 q1 c1 s1 x1 x2 x3 => ?_
  refine st_reqs hl (x1.LQ hi hq) (x1.LR hi hR) (Nat.le_trans hi x1.1) (by omega) (by omega) fun wn2 tt2 d2 e2 q2 c2 s2 y1 y2 y3 => ?_
  have k2 := x1.tr y1
  have hR2 := k2.LR hi hR
  have hq2 := k2.LQ hi hq
  have hi2 : i + 45 ≤ wn2 := Nat.le_trans hi k2.1
  obtain ⟨-, T, hG, ⟨u, K, hV, hI, hC, -⟩, hBZ, -⟩ := id hR2
  have e45 : d2 45 0 = d 45 0 := k2.2.1.2.2.2.2.1.1
  have e46 := k2.2.1.2.2.2.2.1.2.1
  have h6 : Int32.ofNat (sm (d 46 0) C B) = Int32.ofNat (ms_ct (d2 46 0) 1 C) := by
    rw [ct_w e46 C (by omega), sm_ct b4 C (fun p hp => by
      obtain ⟨⟨b, hb, e⟩, -⟩ := hI.2.1 p hp
      exact ⟨b, hb, by rw [← e46 _ (by omega)]; exact e⟩)]
  have h7 : lsb (d 46 0) R B = ms_lost (d2 46 0) 64 := by
    rw [lost_w e46 64 (by omega)]
    obtain ⟨-, T0, -, -, hz, -⟩ := hR
    exact (lost_lsb hz b4 (by omega)).symm
  have h8 : Int32.ofNat (ms_hots (d 46 0) B) = Int32.ofNat (ms_hots (d2 46 0) B) := by rw [hots_w e46 B b4]
  have f0 : e2 200 i 0 = d2 45 0 0 := hV _ _ _ _ _ (la_f (k := 0) (by omega))
  have f1 : e2 200 i 1 = d2 45 0 1 := hV _ _ _ _ _ (la_f (k := 1) (by omega))
  have f2 : e2 200 i 2 = d2 45 0 2 := hV _ _ _ _ _ (la_f (k := 2) (by omega))
  have f3 : e2 200 i 3 = d2 45 0 3 := hV _ _ _ _ _ (la_f (k := 3) (by omega))
  have f4 : e2 200 i 4 = d2 46 0 8 := hV _ _ _ _ _ la_time
  have f5 : e2 200 i 5 = d2 46 0 9 := hV _ _ _ _ _ la_reqs
  have f8 : e2 200 i 8 = d2 46 0 7 := hV _ _ _ _ _ la_trad
  have go : ∀ v, v = d2 46 0 7 → ER (279, 696, [ev_R 27 0, ev_R 200 i, ev_I (Int32.ofNat (sm (d 46 0) C B)), ev_I (lsb (d 46 0) R B), ev_I (Int32.ofNat (ms_hots (d 46 0) B)), ev_I (ms_wb (d 45 0) (d 46 0) R 9999 B).1, ev_I (ms_wb (d 45 0) (d 46 0) R 9999 B).2, ev_R 211 wn2, ev_I 0], [], c2 + 1, s2 + 10) (384, lk, d2, wn2 + 1, ev_n1 tt2 wn2 211, ev_u3 (ev_u3 (ev_u3 (ev_u3 (ev_u3 (ev_u3 (ev_u3 (ev_u3 (ev_u3 (ev_u3 (ev_w3 e2 211 wn2 (fun _ => 0)) 211 wn2 0 (d2 45 0 0)) 211 wn2 1 (d2 45 0 1)) 211 wn2 2 (d2 45 0 2)) 211 wn2 3 (d2 45 0 3)) 211 wn2 4 (d2 46 0 8)) 211 wn2 5 (d2 46 0 9)) 211 wn2 6 (Int32.ofNat (sm (d 46 0) C B))) 211 wn2 7 (lsb (d 46 0) R B)) 211 wn2 8 (Int32.ofNat (ms_hots (d 46 0) B))) 211 wn2 9 v, ev_z3 q2 211 wn2) P := fun v hv => by
    have ha : ∀ k, k < 10 → (ev_u3 (ev_u3 (ev_u3 (ev_u3 (ev_u3 (ev_u3 (ev_u3 (ev_u3 (ev_u3 (ev_u3 (ev_w3 e2 211 wn2 (fun _ => 0)) 211 wn2 0 (d2 45 0 0)) 211 wn2 1 (d2 45 0 1)) 211 wn2 2 (d2 45 0 2)) 211 wn2 3 (d2 45 0 3)) 211 wn2 4 (d2 46 0 8)) 211 wn2 5 (d2 46 0 9)) 211 wn2 6 (Int32.ofNat (sm (d 46 0) C B))) 211 wn2 7 (lsb (d 46 0) R B)) 211 wn2 8 (Int32.ofNat (ms_hots (d 46 0) B))) 211 wn2 9 v) 211 wn2 k = szw (d2 45 0) (d2 46 0) C B k := fun k hk => by
      match k, hk with
      | 0, _ => simp (disch := omega) only [u3_ne, u3_eq]; rfl
      | 1, _ => simp (disch := omega) only [u3_ne, u3_eq]; rfl
      | 2, _ => simp (disch := omega) only [u3_ne, u3_eq]; rfl
      | 3, _ => simp (disch := omega) only [u3_ne, u3_eq]; rfl
      | 4, _ => simp (disch := omega) only [u3_ne, u3_eq]; rfl
      | 5, _ => simp (disch := omega) only [u3_ne, u3_eq]; rfl
      | 6, _ => simp (disch := omega) only [u3_ne, u3_eq]; exact h6
      | 7, _ => simp (disch := omega) only [u3_ne, u3_eq]; exact h7
      | 8, _ => simp (disch := omega) only [u3_ne, u3_eq]; exact h8
      | 9, _ => simp (disch := omega) only [u3_ne, u3_eq]; exact hv
    have hf : ∀ r x k, x < wn2 → (ev_u3 (ev_u3 (ev_u3 (ev_u3 (ev_u3 (ev_u3 (ev_u3 (ev_u3 (ev_u3 (ev_u3 (ev_w3 e2 211 wn2 (fun _ => 0)) 211 wn2 0 (d2 45 0 0)) 211 wn2 1 (d2 45 0 1)) 211 wn2 2 (d2 45 0 2)) 211 wn2 3 (d2 45 0 3)) 211 wn2 4 (d2 46 0 8)) 211 wn2 5 (d2 46 0 9)) 211 wn2 6 (Int32.ofNat (sm (d 46 0) C B))) 211 wn2 7 (lsb (d 46 0) R B)) 211 wn2 8 (Int32.ofNat (ms_hots (d 46 0) B))) 211 wn2 9 v) r x k = e2 r x k := fun r x k hx => by simp (disch := omega) only [u3_ne, w3_ne]
    generalize (ev_u3 (ev_u3 (ev_u3 (ev_u3 (ev_u3 (ev_u3 (ev_u3 (ev_u3 (ev_u3 (ev_u3 (ev_w3 e2 211 wn2 (fun _ => 0)) 211 wn2 0 (d2 45 0 0)) 211 wn2 1 (d2 45 0 1)) 211 wn2 2 (d2 45 0 2)) 211 wn2 3 (d2 45 0 3)) 211 wn2 4 (d2 46 0 8)) 211 wn2 5 (d2 46 0 9)) 211 wn2 6 (Int32.ofNat (sm (d 46 0) C B))) 211 wn2 7 (lsb (d 46 0) R B)) 211 wn2 8 (Int32.ofNat (ms_hots (d 46 0) B))) 211 wn2 9 v) = e3 at ha hf ⊢
    have k3 : KF wn d e q (wn2 + 1) d2 e3 (ev_z3 q2 211 wn2) := k2.tr ⟨by omega, GF_r _, hf, fun r x p hx => z3_ne (by omega)⟩
    refine st_sz hl (k3.LR hi hR) ha (by omega) (by omega) fun d4 z1 => ?_
    have k4 := k3.tr (KF.look (wn := wn2 + 1) (e := e3) (q := ev_z3 q2 211 wn2) z1)
    refine st_set hl (k4.LQ hi hq) (k4.LR hi hR) (by omega) (by omega) fun d5 z2 => ?_
    have k5 := k4.tr (KF.look (wn := wn2 + 1) (e := e3) (q := ev_z3 q2 211 wn2) z2)
    refine st_acc hl (k5.LQ hi hq) (k5.LR hi hR) (by omega) (by omega) fun d6 zz z3 => ?_
    have k6 := k5.tr (KF.look (wn := wn2 + 1) (e := e3) (q := ev_z3 q2 211 wn2) z3)
    refine st_end hl (k6.LQ hi hq) (k6.LR hi hR) (by omega) (by omega) ?_ fun d7 z4 => ?_
    · rw [wb_w k6.2.1.2.2.2.2.1.2.1 (by omega) B b4, show d6 45 0 = d 45 0 from k6.2.1.2.2.2.2.1.1]
    · exact kk _ _ d7 e3 _ (k6.tr (KF.look (wn := wn2 + 1) (e := e3) (q := ev_z3 q2 211 wn2) z4))
  refine ER_bk ?_
  rw [bk_279_613, show (Nat.beq 384 384 && (Nat.ble (c2 + 1) 1200 && Nat.ble (s2 + 10) 7200)) = true by rw [ble2 (by omega) (by omega)]; rfl, cond_true, f0, f1, f2, f3, f4, f5, f8]
  have w7 := hI.2.2.2.1.2.2.2.1
  rcases w7 with z | z
  · rw [if_pos z]
    exact go 0 z.symm
  · rw [if_neg (by rw [z]; decide)]
    exact go 1 z.symm
end ST6
