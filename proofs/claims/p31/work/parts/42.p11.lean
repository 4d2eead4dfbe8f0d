/-! THE LAW'S METHODS, 11: asks, what a plan says -/
variable {σ : Int32}
def AS (σ : Int32) (d e : Nat → Nat → Nat → Int32) (i j B R C τ : Nat) : Prop := LR σ d e i B R C τ ∧ ∃ t w u, LV e j t w u
section AS1
variable {n : Nat} {lk : Nat → Nat → Nat → Bool} {d d' : Nat → Nat → Nat → Int32} {wn : Nat} {tt : Nat → Nat} {e e' : Nat → Nat → Nat → Int32} {q : Nat → Nat → Nat → Nat} {i j g B R C T τ S : Nat} {t w : Nat → Int32} {P : ev_O × ev_M → Prop}
theorem AS_GF (h : AS σ d e i j B R C τ) (hf : GF d d') : AS σ d' e i j B R C τ := ⟨LR_GF h.1 hf, h.2⟩
theorem AS_x (h : AS σ d e i j B R C τ) (hij : i + 45 ≤ j) (hf : LF e e' j) (hx : ∃ t w u, LV e' j t w u) : AS σ d e' i j B R C τ := ⟨LR_e h.1 fun r x p h0 h1 h2 => hf r x p (by omega), hx⟩
theorem AS_g (h : AS σ d e i j B R C τ) (hf : ∀ r x p, ¬ (r = 208 ∧ x = g) → e' r x p = e r x p) : AS σ d e' i j B R C τ := by
  obtain ⟨h1, t, w, u, h2⟩ := h
  refine ⟨LR_e h1 fun r x p h0 _ _ => hf r x p (by omega), t, w, u, fun r x p T K ha => ?_⟩
  have := LA_bd ha
  rw [hf r x p (by omega)]
  exact h2 _ _ _ _ _ ha
theorem LM_LV (h : LM e j t w B R C T τ) : ∃ t w u, LV e j t w u := by
  obtain ⟨u, K, h1, -⟩ := h
  exact ⟨_, _, _, h1⟩
/-- x becomes like e -/
theorem as_be (hq : LQ q i) (hq' : LQ q j) (hij : i + 45 ≤ j) (h : AS σ d e i j B R C τ) (hG : GB d B R C T τ) :
    ∃ e', EV (261, 0, [ev_R 200 j, ev_R 200 i], [], 0, 0) (n, lk, d, wn, tt, e, q) = some (.inl (some (ev_R 200 j)), (n, lk, d, wn, tt, e', q)) ∧ AS σ d e' i j B R C τ ∧ LM e' j (d 45 0) (d 46 0) B R C T τ := by
  obtain ⟨-, T', hG', hM, -⟩ := id h.1
  obtain ⟨t0, w0, u0, hx⟩ := id h.2
  obtain ⟨e', x1, x2, x3⟩ := lm_be (n := n) (lk := lk) (d := d) (wn := wn) (tt := tt) hq' hq (.inr (by omega)) hx (LM_T hM hG.2.2.2.2.2.2)
  exact ⟨e', x1, AS_x h hij x3 (LM_LV x2), x2⟩
/-- where a plan is kept -/
def pl_ix (k : Nat) : Nat := match k with
  | 0 => 6
  | 1 => 7
  | 2 => 10
  | _ => 11
theorem pl_facts (hq : LQ q j) (hT : TC t B R) (hS : w 0 = Int32.ofNat S) (hS4 : S ≤ 4) (hM : LM e j t w B R C T τ) (h : EV (271, 0, [ev_R 200 j], [], 0, 0) (n, lk, d, wn, tt, e, q) = some (.inl none, (n, lk, d, wn, tt, e', q))) :
    ∀ b k, b < B → k < 4 → e' 201 (j + 9 + 9 * b) (pl_ix k) = ol_nxv t (ms_pre t w C B) C R B S b k := by
  obtain ⟨u, K, hV, hI, hC, hr, hk, -⟩ := hM
  have b4 : B ≤ 4 := hT.1.2.2.2.1
  obtain ⟨e2, u2, K2, x1, x2, x3, x4, x5, x6⟩ := lm_plan (n := n) (lk := lk) (d := d) (wn := wn) (tt := tt) hq hT hI hC hS hS4 hr hk hV
  have ee : e' = e2 := by
    rw [h] at x1
    simp only [Option.some.injEq, Prod.mk.injEq, true_and, and_true] at x1
    exact x1
  subst ee
  intro b k hb hk4
  match k, hk4 with
  | 0, _ => exact (x2 _ _ _ _ _ (la_bk (by omega) (k := 6) (by omega))).trans (ms_wg6 hb)
  | 1, _ => exact (x2 _ _ _ _ _ (la_bk (by omega) (k := 7) (by omega))).trans (ms_wg7 hb)
  | 2, _ => exact (x2 _ _ _ _ _ (la_bx (by omega) (k := 2) (by omega))).trans (x6 b hb).1
  | 3, _ => exact (x2 _ _ _ _ _ (la_bx (by omega) (k := 3) (by omega))).trans (x6 b hb).2
theorem as_next (hl : LK lk) (hq : LQ q i) (hq' : LQ q j) (hij : i + 45 ≤ j) (h : AS σ d e i j B R C τ)
    (kk : ∀ d' e' c s, AS σ d' e' i j B R C τ → c ≤ 32 → s ≤ 192 → ER (280, 108, [ev_R 27 0, ev_R 200 i, ev_R 200 j, ev_R 208 g, ev_I (Int32.ofNat B)], [], c, s) (384, lk, d', wn, tt, e', q) P) :
    ER (280, 0, [ev_R 27 0, ev_R 200 i, ev_R 200 j, ev_R 208 g], [], 0, 0) (384, lk, d, wn, tt, e, q) P := by
  obtain ⟨b4, -, -, r6, h39, -⟩ := h.1.bds
  obtain ⟨-, T, hG, -⟩ := id h.1
  obtain ⟨S, hS4, hS⟩ := hG.2.2.2.2.2.2.2.2.2.1.1
  obtain ⟨e1, x1, x2, x3⟩ := as_be (n := 384) (lk := lk) (wn := wn) (tt := tt) hq hq' hij h hG
  obtain ⟨u, K, hV, hI, hC, hr, hk, -⟩ := id x3
  obtain ⟨e2, u2, K2, y1, y2, y3, -⟩ := lm_plan (n := 384) (lk := lk) (d := d) (wn := wn) (tt := tt) hq' hG.2.1 hI hC hS hS4 hr hk hV
  have h2 : AS σ d e2 i j B R C τ := AS_x x2 hij y3 ⟨_, _, _, y2⟩
  have loop : ∀ m b, b + m = B → ∀ d', GF d d' → ER (280, 11, [ev_R 27 0, ev_R 200 i, ev_R 200 j, ev_R 208 g, ev_I (Int32.ofNat b)], [], 8 * b, 48 * b) (384, lk, d', wn, tt, e2, q) P := by
    intro m
    induction m with
    | zero =>
      intro b hb d' g1
      have eb : b = B := by omega
      subst eb
      obtain ⟨-, T', hG', ⟨u', K', hV', -⟩, -⟩ := (AS_GF h2 g1).1
      have e0 : e2 200 i 0 = Int32.ofNat b := (hV' _ _ _ _ _ (la_f (k := 0) (by omega))).trans hG'.2.1.1.1
      refine ER_bk ?_
      rw [bk_280_11, e0, if_neg (fun z => Int32.lt_irrefl z)]
      exact kk d' e2 _ _ (AS_GF h2 g1) (by omega) (by omega)
    | succ m ih =>
      intro b hb d' g1
      have hb4 : b < 4 := by omega
      -- the facts at the numbers of this moment
      have fac : ∀ d1, GF d d1 → ∀ k, k < 4 → ∃ d2, GF d1 d2 ∧ ∀ K : Int32 → ev_M → ev_T, ev_bi (EV (97, 0, [ev_R 27 0, ev_I (Int32.ofNat b), ev_I (Int32.ofNat k)], [], 0, 0) (384, lk, d1, wn, tt, e2, q)) ev_no (fun z μ1 => ev_gh (EV (202, 0, [ev_R 44 0, ev_I (Int32.ofNat b), ev_I (Int32.ofNat k)], [], 0, 0) μ1) μ1 (fun ν => K z ν)) = K (e2 201 (j + 9 + 9 * b) (pl_ix k)) (384, lk, d2, wn, tt, e2, q) := fun d1 f1 k hk4 => by
        have hG1 := GB_GF hG f1
        have e45 : d1 45 0 = d 45 0 := f1.2.2.2.2.1.1
        have e46 := f1.2.2.2.2.1.2.1
        have hS1 : d1 46 0 0 = Int32.ofNat S := by rw [e46 0 (by omega)]; exact hS
        have hM1 : LM e1 j (d1 45 0) (d1 46 0) B R C T τ := by
          rw [e45]
          exact LM_w x3 e46
        rw [pl_facts (w := d1 46 0) hq' hG1.2.1 hS1 hS4 hM1 y1 b k (by omega) hk4]
        exact gl_call (wn, tt, e2, q) (ol_next hl hG1 hS1 hS4 (by omega) hk4)
      obtain ⟨d1, f1, q1⟩ := fac d' g1 0 (by omega)
      obtain ⟨d2, f2, q2⟩ := fac d1 (GF_t g1 f1) 1 (by omega)
      obtain ⟨d3, f3, q3⟩ := fac d2 (GF_t (GF_t g1 f1) f2) 2 (by omega)
      obtain ⟨d4, f4, q4⟩ := fac d3 (GF_t (GF_t (GF_t g1 f1) f2) f3) 3 (by omega)
      obtain ⟨-, T', hG', ⟨u', K', hV', -⟩, -⟩ := (AS_GF h2 g1).1
      have e0 : e2 200 i 0 = Int32.ofNat B := (hV' _ _ _ _ _ (la_f (k := 0) (by omega))).trans hG'.2.1.1.1
      have k7 := (hq'.2 b hb4).1
      have k16 := hq'.1.2.2.2.2.2.2.2
      have p0 : Int32.ofNat 0 = 0 := rfl
      have p1 : Int32.ofNat 1 = 1 := rfl
      have p2 : Int32.ofNat 2 = 2 := rfl
      have p3 : Int32.ofNat 3 = 3 := rfl
      rw [p0, show pl_ix 0 = 6 from rfl] at q1
      rw [p1, show pl_ix 1 = 7 from rfl] at q2
      rw [p2, show pl_ix 2 = 10 from rfl] at q3
      rw [p3, show pl_ix 3 = 11 from rfl] at q4
      refine ER_bk ?_
      rw [bk_280_11, e0, if_pos ((ni_lt (by omega) (by omega)).mpr (by omega)), ble2 (show 8 * b + 2 ≤ 40 by omega) (show 48 * b + 12 ≤ 300 by omega), cond_true, q1]
      simp only [k16, ev_lq_s, ni_in (n := b) (N := 4) hb4 (by omega), cond_true, ni_c (n := b) (by omega), k7, ↓reduceIte]
      rw [ble2 (show 8 * b + 2 + 2 ≤ 40 by omega) (show 48 * b + 12 + 12 ≤ 300 by omega), cond_true, q2]
      simp only [k16, ev_lq_s, ni_in (n := b) (N := 4) hb4 (by omega), cond_true, ni_c (n := b) (by omega), k7, ↓reduceIte]
      rw [ble2 (show 8 * b + 2 + 2 + 2 ≤ 40 by omega) (show 48 * b + 12 + 12 + 12 ≤ 300 by omega), cond_true, q3]
      simp only [k16, ev_lq_s, ni_in (n := b) (N := 4) hb4 (by omega), cond_true, ni_c (n := b) (by omega), k7, ↓reduceIte]
      rw [ble2 (show 8 * b + 2 + 2 + 2 + 2 ≤ 40 by omega) (show 48 * b + 12 + 12 + 12 + 12 ≤ 300 by omega), cond_true, q4]
      simp only [k16, ev_lq_s, ni_in (n := b) (N := 4) hb4 (by omega), cond_true, ni_c (n := b) (by omega), k7, ↓reduceIte]
      rw [ni_1]
      exact ih (b + 1) (by omega) d4 (GF_t (GF_t (GF_t (GF_t g1 f1) f2) f3) f4)
  refine ER_bk ?_
  rw [bk_280_0, x1]
  simp only [ev_br, show Nat.beq 200 200 = true from rfl, cond_true]
  rw [y1]
  simp only [ev_bv]
  exact loop B 0 (by omega) d (GF_r d)
end AS1
