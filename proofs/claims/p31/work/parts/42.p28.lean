/-! THE LAW'S METHODS, 28: the law draws a Memory, settings -/
section MWT
variable {w i j g B R : Nat} {lk : Nat → Nat → Nat → Bool} {d e : Nat → Nat → Nat → Int32} {tt : Nat → Nat} {q : Nat → Nat → Nat → Nat} {L : List Int32} {t s a : Nat → Int32} {m : Int32} {C : Nat} {P : ev_O × ev_M → Prop}
theorem MA_up {w' : Nat} {e' : Nat → Nat → Nat → Int32} {q' : Nat → Nat → Nat → Nat} {v : Nat → Int32} (hA : MA w e q i j L t v) (hw : w ≤ w') (hf : ∀ r x p, x < w → e' r x p = e r x p) (hq : ∀ r x p, x < w → q' r x p = q r x p) : MA w' e' q' i j L t v := by
  obtain ⟨a1, a2, a3, a4, h, cap, ⟨s1, s2, s3, s4, s5, s6, s7, s8, s9⟩, hc⟩ := hA
  exact ⟨LQ_q a1 fun r x p h1 h2 => hq r x p (by omega), a2, by omega, LV_r a4 fun r x p hr h1 h2 => hf r x p (by omega), h, cap, ⟨by rw [hq _ _ _ s3, s1], by omega, by omega, by rw [hf _ _ _ s3, s4], by rw [hf _ _ _ s3, s5], by rw [hf _ _ _ s2, s6], s7, s8, fun k hk => by rw [hf _ _ _ s2, s9 k hk]⟩, hc⟩
theorem sm_all : ∀ k, k < 7 → ev_sa 3 k = ev_sa 0 k ∧ ev_sa 0 k = Int32.ofNat (ev_sa 0 k).toNatClampNeg ∧ (ev_sa 0 k).toNatClampNeg ≤ 1 ∧ ev_sa 1 k = Int32.ofNat (ev_sa 1 k).toNatClampNeg ∧ (ev_sa 1 k).toNatClampNeg ≤ 99 ∧ ev_sl (37 + k) ≤ 8 ∧
    (if (((ev_sa 4 k) - (ev_sa 3 k)) + (1 : Int32)) < (6 : Int32) then (((ev_sa 4 k) - (ev_sa 3 k)) + (1 : Int32)) else (6 : Int32)) = Int32.ofNat (if (((ev_sa 4 k) - (ev_sa 3 k)) + (1 : Int32)) < (6 : Int32) then (((ev_sa 4 k) - (ev_sa 3 k)) + (1 : Int32)) else (6 : Int32)).toNatClampNeg ∧
    1 ≤ (if (((ev_sa 4 k) - (ev_sa 3 k)) + (1 : Int32)) < (6 : Int32) then (((ev_sa 4 k) - (ev_sa 3 k)) + (1 : Int32)) else (6 : Int32)).toNatClampNeg ∧ (if (((ev_sa 4 k) - (ev_sa 3 k)) + (1 : Int32)) < (6 : Int32) then (((ev_sa 4 k) - (ev_sa 3 k)) + (1 : Int32)) else (6 : Int32)).toNatClampNeg ≤ 6 ∧
    (ev_sa 0 k).toNatClampNeg + (if (((ev_sa 4 k) - (ev_sa 3 k)) + (1 : Int32)) < (6 : Int32) then (((ev_sa 4 k) - (ev_sa 3 k)) + (1 : Int32)) else (6 : Int32)).toNatClampNeg ≤ (ev_sa 1 k).toNatClampNeg + 1 ∧ (k = 3 ∨ k = 5 → 10 ≤ (ev_sa 1 k).toNatClampNeg) ∧ (k = 4 → (ev_sa 1 k).toNatClampNeg = 20) := by decide +kernel
/-- the strings of the settings -/
def SL (q : Nat → Nat → Nat → Nat) (w i3 : Nat) : Prop := i3 < w ∧ ∀ k, k < 7 → q 212 i3 k = 37 + k + 1
theorem SL_bf {w' i3 : Nat} {e' : Nat → Nat → Nat → Int32} {q' : Nat → Nat → Nat → Nat} (h : SL q w i3) (hf : BF j w e q w' e' q') : SL q' w' i3 := ⟨by have := hf.1; have := h.1; omega, fun k hk => by rw [hf.2.2 212 i3 k h.1 (by omega), h.2 k hk]⟩
/-- a setting is written -/
theorem mw_put {i3 k z lo hi : Nat} (h : ME w e q i j B R L t s a m C) (hk : k < 7) (hlo : ev_sa 0 k = Int32.ofNat lo) (hhi : ev_sa 1 k = Int32.ofNat hi) (hl1 : lo ≤ 1) (hh : hi ≤ 99) (hz : lo + z ≤ hi) (h4 : k = 4 → hi = 20) (hm : tb m k) (hL : L.length ≤ 500) (hS : SL q w i3) (h8 : ev_sl (37 + k) ≤ 8) :
    ∃ w1 t1 e1 q1 w2 t2 e2 q2 w3 t3 e3 q3 w4 t4 e4 q4 L', L'.length ≤ L.length + 12 ∧
      EV (226, 0, [ev_R 213 j, ev_R 100 (37 + k)], [], 0, 0) (384, lk, d, w, tt, ev_u3 e 202 (i + 1) k (Int32.ofNat (lo + z)), q) = some (.inl (some (ev_R 213 j)), (384, lk, d, w1, t1, e1, q1)) ∧
      EV (240, 0, [ev_R 213 j, ev_I (32 : Int32)], [], 0, 0) (384, lk, d, w1, t1, e1, q1) = some (.inl (some (ev_R 213 j)), (384, lk, d, w2, t2, e2, q2)) ∧
      q2 200 i 9 = (i + 1) + 1 ∧ e2 202 (i + 1) k = Int32.ofNat (lo + z) ∧
      EV (236, 0, [ev_R 213 j, ev_I (Int32.ofNat (lo + z))], [], 0, 0) (384, lk, d, w2, t2, e2, q2) = some (.inl (some (ev_R 213 j)), (384, lk, d, w3, t3, e3, q3)) ∧
      EV (240, 0, [ev_R 213 j, ev_I (59 : Int32)], [], 0, 0) (384, lk, d, w3, t3, e3, q3) = some (.inl (some (ev_R 213 j)), (384, lk, d, w4, t4, e4, q4)) ∧
      SL q4 w4 i3 ∧ ME w4 e4 q4 i j B R L' t (ev_u1 s k (Int32.ofNat (lo + z))) a (m ||| ((1 : Int32) <<< (Int32.ofNat k &&& 31))) C := by
  obtain ⟨hA, hP, h7, hb, s4⟩ := h
  have g1 := dg_le (lo + z)
  have A1 : MA w (ev_u3 e 202 (i + 1) k (Int32.ofNat (lo + z))) q i j L t (pw (ev_u1 s k (Int32.ofNat (lo + z))) a C) := by
    have x := MA_v hA ((LF.rf e i).put (la_set hk)) (LV.put0 (v := Int32.ofNat (lo + z)) hA.2.2.2.1 (la_set hk))
    exact MA_c x (funext fun y => pw_u (by omega) y)
  obtain ⟨w1, t1, e1, q1, v1, f1, B1⟩ := ma_str (lk := lk) (d := d) (tt := tt) (k := 37 + k) A1 (by omega)
  obtain ⟨w2, t2, e2, q2, v2, f2, B2⟩ := ma_chr (lk := lk) (d := d) (tt := t1) (x := 32) (.inl rfl) B1 (by simp only [List.length_append, sbl_len]; omega)
  obtain ⟨w3, t3, e3, q3, v3, f3, B3⟩ := ma_num (lk := lk) (d := d) (tt := t2) (y := lo + z) (by omega) B2 (by simp only [List.length_append, List.length_cons, List.length_nil, sbl_len]; omega)
  obtain ⟨w4, t4, e4, q4, v4, f4, B4⟩ := ma_chr (lk := lk) (d := d) (tt := t3) (x := 59) (.inr rfl) B3 (by simp only [List.length_append, List.length_cons, List.length_nil, sbl_len]; omega)
  refine ⟨w1, t1, e1, q1, w2, t2, e2, q2, w3, t3, e3, q3, w4, t4, e4, q4, _, ?_, v1, v2, B2.1.1.1, ?_, v3, v4, SL_bf (SL_bf (SL_bf (SL_bf hS f1) f2) f3) f4, B4, PRS_set hP hk (by omega) hm ?_ ?_, as7_app (as7_app (as7_app (as7_app h7 (as7_sbl (by omega))) (as7_1 (.inl rfl))) (as7_dg (by omega))) (as7_1 (.inr rfl)), hb, ?_⟩
  · simp only [List.length_append, List.length_cons, List.length_nil, sbl_len]
    omega
  · rw [B2.2.2.2.1 _ _ _ _ _ (la_set hk)]
    show pw _ _ _ k = _
    rw [pw_lo (by omega), u1s]
  · rw [hlo]
    exact (ni_le (by omega) (by omega)).mpr (by omega)
  · rw [hhi]
    exact (ni_le (by omega) (by omega)).mpr hz
  · by_cases c : k = 4
    · subst c
      have := h4 rfl
      rw [u1s]
      unfold ms_rg
      rw [ni_t (by omega)]
      omega
    · rw [u1n (by omega)]
      exact s4
/-- the settings -/
theorem mw_sets {i3 : Nat} : ∀ f k w tt (e : Nat → Nat → Nat → Int32) (q : Nat → Nat → Nat → Nat) L s m c s0, k + f = 7 → ME w e q i j B R L t s a m C → SL q w i3 → s 7 = 0 → (∀ x, k ≤ x → x < 8 → tb m x) → L.length + 12 * f ≤ 190 → c + 8 * f ≤ 180 → s0 + 30000 ≤ 1000 * c →
    (∀ w' tt' e' q' L' s' m' c' s1, L'.length ≤ 190 → c' ≤ 180 → s1 + 30000 ≤ 1000 * c' → s' 7 = 0 → tb m' 7 → ME w' e' q' i j B R L' t s' a m' C → ER (277, 428, [ev_R 213 j, ev_R 208 g, ev_R 200 i, ev_R 212 i3, ev_I (Int32.ofNat 7)], [], c', s1) (384, lk, d, w', tt', e', q') P) →
    ER (277, 320, [ev_R 213 j, ev_R 208 g, ev_R 200 i, ev_R 212 i3, ev_I (Int32.ofNat k)], [], c, s0) (384, lk, d, w, tt, e, q) P
  | 0, k, w, tt, e, q, L, s, m, c, s0, hk, h, hS, h7, hm, hL, hc, hs, kk => by
    have : k = 7 := by omega
    subst this
    refine ER_bk ?_
    rw [bk_277_320, if_neg (by decide)]
    exact kk w tt e q L s m c s0 (by omega) (by omega) (by omega) h7 (hm 7 (by omega) (by omega)) h
  | f + 1, k, w, tt, e, q, L, s, m, c, s0, hk, h, hS, h7, hm, hL, hc, hs, kk => by
    have hk7 : k < 7 := by omega
    obtain ⟨y1, y2, y3, y4, y5, y6, y7, y8, y9, y10, y11, y12⟩ := sm_all k hk7
    have i7 := ni_in (n := k) (N := 7) hk7 (by omega)
    have c7 := ni_c (n := k) (by omega)
    obtain ⟨b, e1, hb, x1, f1⟩ := lw_draw (n := 384) (lk := lk) (d := d) (wn := w) (tt := tt) (e := e) (q := q) (j := g) (m := 2) (by omega) (by omega)
    have h1 := ME_e h f1
    have next : ∀ w' tt' e' q' L' s' m' c' s1, L'.length ≤ L.length + 12 → c' ≤ c + 8 → s1 + 30000 ≤ 1000 * c' → s' 7 = 0 → (∀ x, k + 1 ≤ x → x < 8 → tb m' x) → SL q' w' i3 → ME w' e' q' i j B R L' t s' a m' C → ER (277, 422, [ev_R 213 j, ev_R 208 g, ev_R 200 i, ev_R 212 i3, ev_I (Int32.ofNat k)], [], c', s1) (384, lk, d, w', tt', e', q') P := fun w' tt' e' q' L' s' m' c' s1 p1 p2 p3 p4 p5 p6 p7 => by
      refine ER_bk ?_
      rw [bk_277_422, ni_1]
      exact mw_sets f (k + 1) w' tt' e' q' L' s' m' c' s1 (by omega) p7 p6 p4 p5 (by omega) (by omega) (by omega) kk
    refine ER_bk ?_
    rw [bk_277_320, if_pos (show Int32.ofNat k < (7 : Int32) from (ni_lt (b := 7) (by omega) (by omega)).mpr hk7)]
    simp only [naz, ble2 (show c ≤ 400 by omega) (show s0 ≤ 300000 by omega), cond_true]
    rw [show (2 : Int32) = Int32.ofNat 2 from rfl, x1, bi_ok]
    by_cases cb : Int32.ofNat b = 0
    · rw [if_pos cb]
      exact next w tt e1 q L s m c s0 (by omega) (by omega) (by omega) h7 (fun x z1 z2 => hm x (by omega) z2) hS h1
    · rw [if_neg cb]
      have k9 := h1.1.1.1.1
      refine ER_bk ?_
      rw [bk_277_338, k9, ev_lq_s, i7, cond_true]
      by_cases c3 : k = 3
      · have c3' : Int32.ofNat k = 3 := by
          rw [c3]
          rfl
        rw [if_pos c3']
        obtain ⟨z, e2, hz, x2, f2⟩ := lw_draw (n := 384) (lk := lk) (d := d) (wn := w) (tt := tt) (e := e1) (q := q) (j := g) (m := 9) (by omega) (by omega)
        obtain ⟨w1, t1, e3, q1, w2, t2, e4, q2, w3, t3, e5, q3, w4, t4, e6, q4, L', lL, v1, v2, l9, l2, v3, v4, SS, MM⟩ := mw_put (lk := lk) (d := d) (tt := tt) (i3 := i3) (k := k) (z := z) (ME_e h1 f2) hk7 y2 y4 y3 y5 (by have := y11 (.inl c3); omega) y12 (hm k (Nat.le_refl _) (by omega)) (by omega) hS y6
        have ev : ev_sa 3 k + Int32.ofNat z = Int32.ofNat ((ev_sa 0 k).toNatClampNeg + z) := by
          rw [y1, Int32.ofNat_add, ← y2]
        simp only [naz, ble2 (show c ≤ 400 by omega) (show s0 ≤ 300000 by omega), cond_true]
        simp only [Nat.add_assoc, Nat.reduceAdd] at v1 v2 v3 v4 l9 l2
        rw [show (9 : Int32) = Int32.ofNat 9 from rfl, x2, bi_ok]
        simp only [i7, c7, cond_true, hS.2 k hk7, ev_lq_s, ev, ble2 (show c + 2 ≤ 400 by omega) (show s0 + 2000 ≤ 300000 by omega)]
        rw [v1, br_ok]
        simp only [Nat.beq_refl, cond_true, ble2 (show c + 2 + 2 ≤ 400 by omega) (show s0 + 2000 + 2000 ≤ 300000 by omega)]
        rw [v2, br_ok]
        simp only [Nat.beq_refl, cond_true, ble2 (show c + 2 + 2 + 2 ≤ 400 by omega) (show s0 + 2000 + 2000 + 2000 ≤ 300000 by omega), l9, ev_lq_s, i7, c7, l2]
        rw [v3, br_ok]
        simp only [Nat.beq_refl, cond_true, ble2 (show c + 2 + 2 + 2 + 2 ≤ 400 by omega) (show s0 + 2000 + 2000 + 2000 + 2000 ≤ 300000 by omega)]
        rw [v4, br_ok]
        simp only [Nat.beq_refl, cond_true]
        exact next w4 t4 e6 q4 L' _ _ (c + 2 + 2 + 2 + 2) (s0 + 2000 + 2000 + 2000 + 2000) lL (by omega) (by simp only [Nat.add_assoc, Nat.reduceAdd]; omega) (by rw [u1n (by omega), h7]) (fun x z1 z2 => (tb_or (by omega) z2).mpr ⟨by omega, hm x (by omega) z2⟩) SS MM
      · have c3' : ¬ Int32.ofNat k = 3 := fun z => c3 ((ni_eq (b := 3) (by omega) (by omega)).mp z)
        rw [if_neg c3']
        by_cases c5 : k = 5
        · have c5' : Int32.ofNat k = 5 := by
            rw [c5]
            rfl
          rw [if_pos c5']
          obtain ⟨z, e2, hz, x2, f2⟩ := lw_draw (n := 384) (lk := lk) (d := d) (wn := w) (tt := tt) (e := e1) (q := q) (j := g) (m := 9) (by omega) (by omega)
          obtain ⟨w1, t1, e3, q1, w2, t2, e4, q2, w3, t3, e5, q3, w4, t4, e6, q4, L', lL, v1, v2, l9, l2, v3, v4, SS, MM⟩ := mw_put (lk := lk) (d := d) (tt := tt) (i3 := i3) (k := k) (z := z) (ME_e h1 f2) hk7 y2 y4 y3 y5 (by have := y11 (.inr c5); omega) y12 (hm k (Nat.le_refl _) (by omega)) (by omega) hS y6
          have ev : ev_sa 3 k + Int32.ofNat z = Int32.ofNat ((ev_sa 0 k).toNatClampNeg + z) := by
            rw [y1, Int32.ofNat_add, ← y2]
          simp only [naz, ble2 (show c ≤ 400 by omega) (show s0 ≤ 300000 by omega), cond_true]
          simp only [Nat.add_assoc, Nat.reduceAdd] at v1 v2 v3 v4 l9 l2
          rw [show (9 : Int32) = Int32.ofNat 9 from rfl, x2, bi_ok]
          simp only [i7, c7, cond_true, hS.2 k hk7, ev_lq_s, ev, ble2 (show c + 2 ≤ 400 by omega) (show s0 + 2000 ≤ 300000 by omega)]
          rw [v1, br_ok]
          simp only [Nat.beq_refl, cond_true, ble2 (show c + 2 + 2 ≤ 400 by omega) (show s0 + 2000 + 2000 ≤ 300000 by omega)]
          rw [v2, br_ok]
          simp only [Nat.beq_refl, cond_true, ble2 (show c + 2 + 2 + 2 ≤ 400 by omega) (show s0 + 2000 + 2000 + 2000 ≤ 300000 by omega), l9, ev_lq_s, i7, c7, l2]
          rw [v3, br_ok]
          simp only [Nat.beq_refl, cond_true, ble2 (show c + 2 + 2 + 2 + 2 ≤ 400 by omega) (show s0 + 2000 + 2000 + 2000 + 2000 ≤ 300000 by omega)]
          rw [v4, br_ok]
          simp only [Nat.beq_refl, cond_true]
          exact next w4 t4 e6 q4 L' _ _ (c + 2 + 2 + 2 + 2) (s0 + 2000 + 2000 + 2000 + 2000) lL (by omega) (by simp only [Nat.add_assoc, Nat.reduceAdd]; omega) (by rw [u1n (by omega), h7]) (fun x z1 z2 => (tb_or (by omega) z2).mpr ⟨by omega, hm x (by omega) z2⟩) SS MM
        · have c5' : ¬ Int32.ofNat k = 5 := fun z => c5 ((ni_eq (b := 5) (by omega) (by omega)).mp z)
          rw [if_neg c5', cond_true, cond_true, c7]
          obtain ⟨z, e2, hz, x2, f2⟩ := lw_draw (n := 384) (lk := lk) (d := d) (wn := w) (tt := tt) (e := e1) (q := q) (j := g) (m := (if (((ev_sa 4 k) - (ev_sa 3 k)) + (1 : Int32)) < (6 : Int32) then (((ev_sa 4 k) - (ev_sa 3 k)) + (1 : Int32)) else (6 : Int32)).toNatClampNeg) y8 (by omega)
          obtain ⟨w1, t1, e3, q1, w2, t2, e4, q2, w3, t3, e5, q3, w4, t4, e6, q4, L', lL, v1, v2, l9, l2, v3, v4, SS, MM⟩ := mw_put (lk := lk) (d := d) (tt := tt) (i3 := i3) (k := k) (z := z) (ME_e h1 f2) hk7 y2 y4 y3 y5 (by omega) y12 (hm k (Nat.le_refl _) (by omega)) (by omega) hS y6
          have ev : ev_sa 3 k + Int32.ofNat z = Int32.ofNat ((ev_sa 0 k).toNatClampNeg + z) := by
            rw [y1, Int32.ofNat_add, ← y2]
          simp only [naz, ble2 (show c ≤ 400 by omega) (show s0 ≤ 300000 by omega), cond_true]
          simp only [Nat.add_assoc, Nat.reduceAdd] at v1 v2 v3 v4 l9 l2
          rw [y7, x2, bi_ok]
          simp only [i7, c7, cond_true, hS.2 k hk7, ev_lq_s, ev, ble2 (show c + 2 ≤ 400 by omega) (show s0 + 2000 ≤ 300000 by omega)]
          rw [v1, br_ok]
          simp only [Nat.beq_refl, cond_true, ble2 (show c + 2 + 2 ≤ 400 by omega) (show s0 + 2000 + 2000 ≤ 300000 by omega)]
          rw [v2, br_ok]
          simp only [Nat.beq_refl, cond_true, ble2 (show c + 2 + 2 + 2 ≤ 400 by omega) (show s0 + 2000 + 2000 + 2000 ≤ 300000 by omega), l9, ev_lq_s, i7, c7, l2]
          rw [v3, br_ok]
          simp only [Nat.beq_refl, cond_true, ble2 (show c + 2 + 2 + 2 + 2 ≤ 400 by omega) (show s0 + 2000 + 2000 + 2000 + 2000 ≤ 300000 by omega)]
          rw [v4, br_ok]
          simp only [Nat.beq_refl, cond_true]
          exact next w4 t4 e6 q4 L' _ _ (c + 2 + 2 + 2 + 2) (s0 + 2000 + 2000 + 2000 + 2000) lL (by omega) (by simp only [Nat.add_assoc, Nat.reduceAdd]; omega) (by rw [u1n (by omega), h7]) (fun x z1 z2 => (tb_or (by omega) z2).mpr ⟨by omega, hm x (by omega) z2⟩) SS MM
end MWT
