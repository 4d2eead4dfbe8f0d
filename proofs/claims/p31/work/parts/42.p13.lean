/-! THE LAW'S METHODS, 13: asks, the gain, waits, settings -/
variable {σ : Int32}
theorem SI_S {w : Nat → Int32} {B R C T τ : Nat} (h : SI w B R C T τ) : ∃ S, S ≤ 4 ∧ w 0 = Int32.ofNat S := h.2.2.2.1.1
section AS3
variable {lk : Nat → Nat → Nat → Bool} {d d' : Nat → Nat → Nat → Int32} {wn : Nat} {tt : Nat → Nat} {e e' : Nat → Nat → Nat → Int32} {q : Nat → Nat → Nat → Nat} {i j g B R C T τ S : Nat} {t w : Nat → Int32} {P : ev_O × ev_M → Prop}
theorem as_gain (hl : LK lk) (hq : LQ q i) (hq' : LQ q j) (hij : i + 45 ≤ j) (h : AS σ d e i j B R C τ) {z : Int32} {k c s : Nat} (hk1 : 1 ≤ k) (hk : k ≤ 60) (hc : c + 1 ≤ 40) (hs : s + 6 ≤ 300)
    (kk : ∀ d' e' z', AS σ d' e' i j B R C τ → ER (280, 242, [ev_R 27 0, ev_R 200 i, ev_R 200 j, ev_R 208 g, ev_I z, ev_I (Int32.ofNat k), ev_I z'], [], c + 1, s + 6) (384, lk, d', wn, tt, e', q) P) :
    ER (280, 196, [ev_R 27 0, ev_R 200 i, ev_R 200 j, ev_R 208 g, ev_I z, ev_I (Int32.ofNat k)], [], c, s) (384, lk, d, wn, tt, e, q) P := by
  obtain ⟨b4, -, -, r6, h39, hτ⟩ := h.1.bds
  obtain ⟨-, T, hG, -⟩ := id h.1
  obtain ⟨S, hS4, hS⟩ := SI_S hG.2.2.2.2.2.2
  obtain ⟨e1, x1, x2, x3⟩ := as_be (n := 384) (lk := lk) (wn := wn) (tt := tt) hq hq' hij h hG
  have m1 : LM (ev_u3 e1 200 j 8 0) j (d 45 0) (ev_u1 (d 46 0) 7 0) B R C T τ := LM_lo x3 la_trad (by omega) (SI_trading hG.2.2.2.2.2.2 (.inl rfl)) (fun z => by omega)
  have f1 : LF e1 (ev_u3 e1 200 j 8 0) j := (LF.rf e1 j).put la_trad
  obtain ⟨e2, y1, y2, y3⟩ := lm_steps (n := 384) (lk := lk) (d := d) (wn := wn) (tt := tt) (q := q) hq' hG.2.1 hS4 (k := k) (by omega) (by rw [u1n (by omega)]; exact hS) m1
  rw [u1n (k := 7) (j := 14) (by omega)] at y1
  have h2 := AS_x x2 hij (f1.tr y3) (LM_LV y2)
  obtain ⟨e3, z1, z2, z3⟩ := as_be (n := 384) (lk := lk) (wn := wn) (tt := tt) hq hq' hij h2 hG
  have m3 : LM (ev_u3 e3 200 j 8 1) j (d 45 0) (ev_u1 (d 46 0) 7 1) B R C T τ := LM_lo z3 la_trad (by omega) (SI_trading hG.2.2.2.2.2.2 (.inr rfl)) (fun z => by omega)
  have f3 : LF e3 (ev_u3 e3 200 j 8 1) j := (LF.rf e3 j).put la_trad
  obtain ⟨d2, g2, q2⟩ := gl_call (wn, tt, ev_u3 e3 200 j 8 1, q) (ol_gain hl hG hS hS4 (k := k) (by omega) (by omega))
  obtain ⟨e4, w1, w2, w3⟩ := lm_steps (n := 384) (lk := lk) (d := d2) (wn := wn) (tt := tt) (q := q) hq' hG.2.1 hS4 (k := k) (by omega) (by rw [u1n (by omega)]; exact hS) m3
  rw [u1n (k := 7) (j := 14) (by omega)] at w1
  refine ER_bk ?_
  rw [bk_280_196]
  simp only [Nat.add_zero, ble2 (show c ≤ 40 by omega) (show s ≤ 300 by omega), ble2 hc hs, cond_true]
  rw [x1, br_ok, show Nat.beq 200 200 = true from rfl, cond_true]
  simp only []
  rw [y1, bi_ok, z1, br_ok, show Nat.beq 200 200 = true from rfl, cond_true]
  simp only []
  rw [q2, w1, bi_ok, if_pos rfl]
  exact kk d2 e4 _ (AS_GF (AS_x z2 hij (f3.tr w3) (LM_LV w2)) g2)
theorem wo_loop (hq' : LQ q j) (hT : TC t B R) (hS4 : S ≤ 4) {p0 c s : Nat} (hp0 : p0 < C) (h39 : C ≤ 39) {z y5 z6 : Int32} (hc : c ≤ 40) (hs : s ≤ 300) : ∀ m p, p + m = 300 → ∀ e' v τ', τ' + m ≤ 3000 → v 0 = Int32.ofNat S → S3 v C → LM e' j t v B R C T τ' →
    (∀ e'' v' τ'' z', LF e' e'' j → LM e'' j t v' B R C T τ'' → S3 v' C → ms_wo t C R B S p0 m v = (if v' (375 + 6 * p0 + 3) = 2 then v' (375 + 6 * p0 + 4) - v' (375 + 6 * p0 + 2) else -1) → ER (280, 298, [ev_R 27 0, ev_R 200 i, ev_R 200 j, ev_R 208 g, ev_I z, ev_I y5, ev_I z6, ev_I (Int32.ofNat p0), ev_I z'], [], c, s) (384, lk, d, wn, tt, e'', q) P) →
    ER (280, 268, [ev_R 27 0, ev_R 200 i, ev_R 200 j, ev_R 208 g, ev_I z, ev_I y5, ev_I z6, ev_I (Int32.ofNat p0), ev_I (Int32.ofNat p)], [], c, s) (384, lk, d, wn, tt, e', q) P := by
  intro m
  induction m with
  | zero =>
    intro p hp e' v τ' h1 h2 h3 h4 kk
    have ep : p = 300 := by omega
    subst ep
    refine ER_bk ?_
    rw [bk_280_268, if_neg (by decide)]
    exact kk e' v τ' _ (LF.rf e' j) h4 h3 rfl
  | succ m ih =>
    intro p hp e' v τ' h1 h2 h3 h4 kk
    obtain ⟨u, K, hV, hI, -⟩ := id h4
    have k14 := hq'.1.2.2.2.2.2.1
    have es : e' 204 (j + 6) p0 = v (375 + 6 * p0 + 3) := hV _ _ _ _ _ (la_rq (x := 3) (q := p0) (by omega) (by omega))
    have hst : ms_wo t C R B S p0 (m + 1) v = if v (375 + 6 * p0 + 3) = 2 then v (375 + 6 * p0 + 4) - v (375 + 6 * p0 + 2) else ms_wo t C R B S p0 m (ms_tick t v C R B S) := rfl
    refine ER_bk ?_
    rw [bk_280_268, if_pos (show Int32.ofNat p < 300 from (ni_lt (b := 300) (by omega) (by omega)).mpr (by omega)), k14, ev_lq_s, ni_in (n := p0) (N := 40) (by omega) (by omega), cond_true, ni_c (n := p0) (by omega), es]
    by_cases y : v (375 + 6 * p0 + 3) = 2
    · rw [if_neg (show ¬ v (375 + 6 * p0 + 3) < 2 by rw [y]; decide)]
      exact kk e' v τ' _ (LF.rf e' j) h4 h3 (by rw [hst, if_pos y, if_pos y])
    · have lt2 : v (375 + 6 * p0 + 3) < 2 := by
        rcases h3 p0 hp0 with x | x | x
        · rw [x]; decide
        · rw [x]; decide
        · exact absurd x y
      obtain ⟨e2, x1, x2, x3⟩ := lm_step (n := 384) (lk := lk) (d := d) (wn := wn) (tt := tt) hq' hT (by omega) h2 hS4 h4
      have h16 : R ≤ 16 := hT.1.2.2.2.2.2
      have b4 : B ≤ 4 := hT.1.2.2.2.1
      have h2' : ms_tick t v C R B S 0 = Int32.ofNat S := by
        rw [ms_tick_k (k := 0) (.inl (by omega)) b4 h16 (SI_row hI h16)]
        exact h2
      rw [if_pos lt2, ble2 (by omega) (by omega), cond_true, x1, bi_ok, ni_1]
      refine ih (p + 1) (by omega) e2 _ (τ' + 1) (by omega) h2' (S3_tick hT hI h3) x2 fun e3 v3 τ3 zz y1 y2 y3 y4 => kk e3 v3 τ3 zz (x3.tr y1) y2 y3 (by rw [hst, if_neg y, y4])
theorem as_wait (hl : LK lk) (hq : LQ q i) (hq' : LQ q j) (hij : i + 45 ≤ j) (h : AS σ d e i j B R C τ) {z y5 z6 : Int32} {c s : Nat} (hc : c + 1 ≤ 40) (hs : s + 6 ≤ 300)
    (kk : ∀ d' e' c' s', c' ≤ c + 1 → s' ≤ s + 6 → AS σ d' e' i j B R C τ → ER (280, 339, [ev_R 27 0, ev_R 200 i, ev_R 200 j, ev_R 208 g, ev_I z, ev_I y5, ev_I z6], [], c', s') (384, lk, d', wn, tt, e', q) P) :
    ER (280, 242, [ev_R 27 0, ev_R 200 i, ev_R 200 j, ev_R 208 g, ev_I z, ev_I y5, ev_I z6], [], c, s) (384, lk, d, wn, tt, e, q) P := by
  obtain ⟨b4, -, -, r6, h39, hτ⟩ := h.1.bds
  obtain ⟨-, T, hG, ⟨u, K, hV, hI, hC, -⟩, -, -, h3⟩ := id h.1
  obtain ⟨S, hS4, hS⟩ := SI_S hG.2.2.2.2.2.2
  have e5 : e 200 i 5 = Int32.ofNat C := (hV _ _ _ _ _ la_reqs).trans hC
  refine ER_bk ?_
  rw [bk_280_242, e5]
  by_cases c0 : C = 0
  · rw [if_pos (by rw [c0]; decide)]
    exact kk d e c s (by omega) (by omega) h
  · have cn : ¬ Int32.ofNat C ≤ 0 := fun y => absurd ((ni_le (b := 0) (by omega) (by omega)).mp y) (by omega)
    obtain ⟨p0, e1, hp0, x1, x2⟩ := lw_draw (n := 384) (lk := lk) (d := d) (wn := wn) (tt := tt) (e := e) (q := q) (j := g) (m := C) (by omega) (by omega)
    have h1 := AS_g h x2
    obtain ⟨e2, y1, y2, y3⟩ := as_be (n := 384) (lk := lk) (wn := wn) (tt := tt) hq hq' hij h1 hG
    rw [if_neg cn]
    simp only [Nat.add_zero, ble2 (show c ≤ 40 by omega) (show s ≤ 300 by omega), cond_true]
    rw [x1, bi_ok, y1, br_ok, show Nat.beq 200 200 = true from rfl, cond_true]
    refine wo_loop (i := i) (p := 0) hq' hG.2.1 hS4 hp0 h39 (by omega) (by omega) 300 (by omega) e2 (d 46 0) τ (by omega) hS h3 y3 fun e3 v3 τ3 zz z1 z2 z3 z4 => ?_
    obtain ⟨u3, K3, hV3, -⟩ := id z2
    have a3 : e3 204 (j + 6) p0 = v3 (375 + 6 * p0 + 3) := hV3 _ _ _ _ _ (la_rq (x := 3) (q := p0) (by omega) (by omega))
    have a4 : e3 204 (j + 7) p0 = v3 (375 + 6 * p0 + 4) := hV3 _ _ _ _ _ (la_rq (x := 4) (q := p0) (by omega) (by omega))
    have a2 : e3 204 (j + 5) p0 = v3 (375 + 6 * p0 + 2) := hV3 _ _ _ _ _ (la_rq (x := 2) (q := p0) (by omega) (by omega))
    obtain ⟨-, -, -, -, k13, k14, k15, -⟩ := hq'.1
    obtain ⟨d2, f2, q2⟩ := gl_call (wn, tt, e3, q) (ol_waitOf hl hG hS hS4 (q := p0) hp0)
    have fin := kk d2 e3 (c + 1) (s + 6) (by omega) (by omega) (AS_GF (AS_x y2 hij z1 (LM_LV z2)) f2)
    refine ER_bk ?_
    rw [bk_280_298, ble2 (by omega) (by omega), cond_true, q2, z4]
    simp only [k13, k14, k15, ev_lq_s, ni_in (n := p0) (N := 40) (by omega) (by omega), cond_true, ni_c (n := p0) (by omega), a2, a3, a4]
    by_cases y : v3 (375 + 6 * p0 + 3) = 2
    · rw [if_neg (show ¬ v3 (375 + 6 * p0 + 3) < 2 by rw [y]; decide), if_pos y, if_pos rfl]
      exact fin
    · have lt2 : v3 (375 + 6 * p0 + 3) < 2 := by
        rcases z3 p0 hp0 with x | x | x
        · rw [x]; decide
        · rw [x]; decide
        · exact absurd x y
      rw [if_pos lt2, if_neg y, if_pos rfl]
      exact fin
end AS3
