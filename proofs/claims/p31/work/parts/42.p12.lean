/-! THE LAW'S METHODS, 12: asks, losses and waits -/
variable {σ : Int32}
theorem bi_ok {z : Int32} {μ : ev_M} {E : Nat → ev_M → ev_T} {K : Int32 → ev_M → ev_T} : ev_bi (some (.inl (some (ev_I z)), μ)) E K = K z μ := rfl
theorem bv_ok {μ : ev_M} {E : Nat → ev_M → ev_T} {K : ev_M → ev_T} : ev_bv (some (.inl none, μ)) E K = K μ := rfl
theorem br_ok {r i : Nat} {μ : ev_M} {E : Nat → ev_M → ev_T} {K : Nat → Nat → ev_M → ev_T} : ev_br (some (.inl (some (ev_R r i)), μ)) E K = K r i μ := rfl
section AS2
variable {lk : Nat → Nat → Nat → Bool} {d d' : Nat → Nat → Nat → Int32} {wn : Nat} {tt : Nat → Nat} {e e' : Nat → Nat → Nat → Int32} {q : Nat → Nat → Nat → Nat} {i j g B R C T τ S : Nat} {t w : Nat → Int32} {P : ev_O × ev_M → Prop}
theorem LM_lo {r x p K : Nat} {v : Int32} (h : LM e j t w B R C T τ) (ha : LA j r x p 0 K) (hK : K < 8) (hI : SI (ev_u1 w K v) B R C T τ) (h4 : K = 4 → ms_rg v 0 20) : LM (ev_u3 e r x p v) j t (ev_u1 w K v) B R C T τ := by
  obtain ⟨u, K0, h1, -, hC, hr, hk, hBL, hH4, hHE⟩ := h
  refine ⟨u, K0, h1.put0 ha, hI, by rw [u1n (by omega)]; exact hC, hr.hi (fun k hk => u1n (by omega)) (fun b hb => ⟨rfl, fun _ _ => rfl⟩), hk.hi (fun k hk => u1n (by omega)) (u1n (by omega)), fun c hc => by rw [u1n (by omega)]; exact hBL c hc, ?_, fun b hb => by rw [u1n (by omega)]; exact hHE b hb⟩
  by_cases z : K = 4
  · subst z
    rw [u1s]
    exact h4 rfl
  · rw [u1n (by omega)]
    exact hH4
theorem ls_loop (hq' : LQ q j) (hT : TC t B R) (hS4 : S ≤ 4) {c s : Nat} (hc : c ≤ 40) (hs : s ≤ 300) : ∀ m p, p + m = 300 → ∀ e' v τ', τ' + m ≤ 3000 → v 0 = Int32.ofNat S → LM e' j t v B R C T τ' →
    (∀ e'' z, LF e' e'' j → (∃ t w u, LV e'' j t w u) → ER (280, 154, [ev_R 27 0, ev_R 200 i, ev_R 200 j, ev_R 208 g, ev_I (ms_tl t C R B S m v), ev_I z], [], c, s) (384, lk, d, wn, tt, e'', q) P) →
    ER (280, 120, [ev_R 27 0, ev_R 200 i, ev_R 200 j, ev_R 208 g, ev_I (-1), ev_I (Int32.ofNat p)], [], c, s) (384, lk, d, wn, tt, e', q) P := by
  intro m
  induction m with
  | zero =>
    intro p hp e' v τ' h1 h2 h3 kk
    have ep : p = 300 := by omega
    subst ep
    refine ER_bk ?_
    rw [bk_280_120, if_neg (by decide)]
    exact kk e' _ (LF.rf e' j) (LM_LV h3)
  | succ m ih =>
    intro p hp e' v τ' h1 h2 h3 kk
    obtain ⟨e2, x1, x2, x3⟩ := lm_step (n := 384) (lk := lk) (d := d) (wn := wn) (tt := tt) hq' hT (by omega) h2 hS4 h3
    have hI : SI v B R C T τ' := by
      obtain ⟨u, K, -, hI, -⟩ := h3
      exact hI
    have h16 : R ≤ 16 := hT.1.2.2.2.2.2
    have b4 : B ≤ 4 := hT.1.2.2.2.1
    have h2' : ms_tick t v C R B S 0 = Int32.ofNat S := by
      rw [ms_tick_k (k := 0) (.inl (by omega)) b4 h16 (SI_row hI h16)]
      exact h2
    have hst : ms_tl t C R B S (m + 1) v = if ms_tick t v C R B S 14 - v 14 ≤ 0 then ms_tl t C R B S m (ms_tick t v C R B S) else v 8 := rfl
    refine ER_bk ?_
    rw [bk_280_120, if_pos (show Int32.ofNat p < 300 from (ni_lt (b := 300) (by omega) (by omega)).mpr (by omega)), if_pos (by decide), ble2 (by omega) (by omega), cond_true, x1]
    simp only [ev_bi]
    by_cases z : ms_tick t v C R B S 14 - v 14 ≤ 0
    · rw [if_pos z]
      refine ER_bk ?_
      rw [bk_280_148, ni_1]
      refine ih (p + 1) (by omega) e2 _ (τ' + 1) (by omega) h2' x2 fun e3 zz y1 y2 => ?_
      have := kk e3 zz (x3.tr y1) y2
      rw [hst, if_pos z] at this
      exact this
    · rw [if_neg z]
      have e4 : e2 200 j 4 - 1 = v 8 := by
        obtain ⟨u, K, hV, hI2, -⟩ := x2
        rw [show e2 200 j 4 = ms_tick t v C R B S 8 from hV _ _ _ _ _ la_time, hI2.2.2.1.1, hI.2.2.1.1, ← ni_1, Int32.add_sub_cancel]
      have n0 : ¬ v 8 < 0 := fun y => by
        rw [hI.2.2.1.1] at y
        exact absurd ((ni_lt (b := 0) (by omega) (by omega)).mp y) (by omega)
      have fin : ∀ zz, ER (280, 154, [ev_R 27 0, ev_R 200 i, ev_R 200 j, ev_R 208 g, ev_I (v 8), ev_I zz], [], c, s) (384, lk, d, wn, tt, e2, q) P := fun zz => by
        have := kk e2 zz x3 (LM_LV x2)
        rw [hst, if_neg z] at this
        exact this
      refine ER_bk ?_
      rw [bk_280_148, e4]
      refine ER_bk ?_
      rw [bk_280_120]
      split
      · first
          | exact fin _
          | (rw [if_neg n0]; exact fin _)
      · exact fin _
theorem as_loss (hl : LK lk) (hq : LQ q i) (hq' : LQ q j) (hij : i + 45 ≤ j) (h : AS σ d e i j B R C τ) {z : Int32} {c s : Nat} (hc : c ≤ 40) (hs : s ≤ 300)
    (kk : ∀ d' e' z z', AS σ d' e' i j B R C τ → ER (280, 165, [ev_R 27 0, ev_R 200 i, ev_R 200 j, ev_R 208 g, ev_I z, ev_I z'], [], c, s) (384, lk, d', wn, tt, e', q) P) :
    ER (280, 108, [ev_R 27 0, ev_R 200 i, ev_R 200 j, ev_R 208 g, ev_I z], [], c, s) (384, lk, d, wn, tt, e, q) P := by
  obtain ⟨b4, -, -, r6, h39, hτ⟩ := h.1.bds
  obtain ⟨-, T, hG, -⟩ := id h.1
  obtain ⟨S, hS4, hS⟩ := hG.2.2.2.2.2.2.2.2.2.1.1
  obtain ⟨e1, x1, x2, x3⟩ := as_be (n := 384) (lk := lk) (wn := wn) (tt := tt) hq hq' hij h hG
  refine ER_bk ?_
  rw [bk_280_108, ble2 (by omega) (by omega), cond_true, x1]
  simp only [ev_br, show Nat.beq 200 200 = true from rfl, cond_true]
  refine ls_loop (p := 0) (i := i) hq' hG.2.1 hS4 hc hs 300 (by omega) e1 (d 46 0) τ (by omega) hS x3 fun e2 z2 y1 y2 => ?_
  obtain ⟨d2, f2, q2⟩ := gl_call (wn, tt, e2, q) (ol_nextLoss hl hG hS hS4)
  refine ER_bk ?_
  rw [bk_280_154, ble2 (by omega) (by omega), cond_true, q2, if_pos rfl]
  exact kk d2 e2 _ _ (AS_GF (AS_x x2 hij y1 y2) f2)
theorem as_ahead (hl : LK lk) (hq : LQ q i) (hq' : LQ q j) (hij : i + 45 ≤ j) (h : AS σ d e i j B R C τ) {z z' : Int32} {c s : Nat} (hc : c + 1 ≤ 40) (hs : s + 6 ≤ 300)
    (kk : ∀ d' e' z k, 1 ≤ k → k ≤ 60 → AS σ d' e' i j B R C τ → ER (280, 196, [ev_R 27 0, ev_R 200 i, ev_R 200 j, ev_R 208 g, ev_I z, ev_I (Int32.ofNat k)], [], c + 1, s + 6) (384, lk, d', wn, tt, e', q) P) :
    ER (280, 165, [ev_R 27 0, ev_R 200 i, ev_R 200 j, ev_R 208 g, ev_I z, ev_I z'], [], c, s) (384, lk, d, wn, tt, e, q) P := by
  obtain ⟨b4, -, -, r6, h39, hτ⟩ := h.1.bds
  obtain ⟨k0, e1, hk0, x1, x2⟩ := lw_draw (n := 384) (lk := lk) (d := d) (wn := wn) (tt := tt) (e := e) (q := q) (j := g) (m := 60) (by omega) (by omega)
  have h1 := AS_g h x2
  obtain ⟨-, T, hG, -⟩ := id h1.1
  obtain ⟨S, hS4, hS⟩ := hG.2.2.2.2.2.2.2.2.2.1.1
  have ek : (1 : Int32) + Int32.ofNat k0 = Int32.ofNat (1 + k0) := (Int32.ofNat_add 1 k0).symm
  obtain ⟨d2, f2, q2⟩ := gl_call (wn, tt, e1, q) (ol_lossesAhead hl hG hS hS4 (k := 1 + k0) (by omega) (by omega))
  have h2 := AS_GF h1 f2
  have hG2 := GB_GF hG f2
  obtain ⟨e3, y1, y2, y3⟩ := as_be (n := 384) (lk := lk) (wn := wn) (tt := tt) hq hq' hij h2 hG2
  have e45 : d2 45 0 = d 45 0 := f2.2.2.2.2.1.1
  have e46 := f2.2.2.2.2.1.2.1
  have hM : LM e3 j (d 45 0) (d 46 0) B R C T τ := by
    rw [e45] at y3
    exact LM_w y3 (fun k hk => (e46 k hk).symm)
  obtain ⟨e4, z1, z2, z3⟩ := lm_steps (n := 384) (lk := lk) (d := d2) (wn := wn) (tt := tt) hq' hG.2.1 hS4 (k := 1 + k0) (by omega) hS hM
  refine ER_bk ?_
  rw [bk_280_165]
  simp only [Nat.add_zero, ble2 (show c ≤ 40 by omega) (show s ≤ 300 by omega), ble2 hc hs, cond_true]
  rw [show (60 : Int32) = Int32.ofNat 60 from rfl, x1, bi_ok, ek, q2, y1, br_ok, show Nat.beq 200 200 = true from rfl, cond_true, z1, bi_ok, if_pos rfl]
  exact kk d2 e4 _ (1 + k0) (by omega) (by omega) (AS_x y2 hij z3 (LM_LV z2))
end AS2
