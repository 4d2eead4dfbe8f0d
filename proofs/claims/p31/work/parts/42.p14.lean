/-! THE LAW'S METHODS, 14: asks, whole -/
variable {σ : Int32}
theorem sa_34 : ∀ k, k < 7 → ev_sa 3 k = ev_sa 0 k ∧ ev_sa 4 k = ev_sa 1 k := fun k hk => match k, hk with
  | 0, _ => ⟨rfl, rfl⟩
  | 1, _ => ⟨rfl, rfl⟩
  | 2, _ => ⟨rfl, rfl⟩
  | 3, _ => ⟨rfl, rfl⟩
  | 4, _ => ⟨rfl, rfl⟩
  | 5, _ => ⟨rfl, rfl⟩
  | 6, _ => ⟨rfl, rfl⟩
section AS4
variable {lk : Nat → Nat → Nat → Bool} {d d' : Nat → Nat → Nat → Int32} {wn : Nat} {tt : Nat → Nat} {e e' : Nat → Nat → Nat → Int32} {q : Nat → Nat → Nat → Nat} {i j g B R C T τ S : Nat} {t w : Nat → Int32} {P : ev_O × ev_M → Prop}
theorem LM_set (h : LM e j t w B R C T τ) {k v : Nat} (hk : k < 7) (h1 : ev_sa 0 k ≤ Int32.ofNat v) (h2 : Int32.ofNat v ≤ ev_sa 1 k) (hv : v < 1000) : LM (ev_u3 e 202 (j + 1) k (Int32.ofNat v)) j t (ev_u1 w k (Int32.ofNat v)) B R C T τ := by
  obtain ⟨u, K, -, hI, -⟩ := id h
  refine LM_lo h (la_set hk) (by omega) (SI_set hI hk h1 h2 hv) fun z => ?_
  subst z
  have e1 : ev_sa 1 4 = 20 := rfl
  rw [e1] at h2
  have := (ni_le (b := 20) (by omega) (by omega)).mp h2
  unfold ms_rg
  rw [ni_t (by omega)]
  omega
theorem as_least (hl : LK lk) (hq : LQ q i) (hq' : LQ q j) (hij : i + 45 ≤ j) (h : AS σ d e i j B R C τ) {z y6 : Int32} {p c s : Nat} (hp1 : 1 ≤ p) (hp : p ≤ 60) (hc : c + 2 ≤ 40) (hs : s + 12 ≤ 300)
    (kk : ∀ d' e', AS σ d' e' i j B R C τ → P (.inl (some (ev_I 1)), (384, lk, d', wn, tt, e', q))) :
    ER (280, 339, [ev_R 27 0, ev_R 200 i, ev_R 200 j, ev_R 208 g, ev_I z, ev_I (Int32.ofNat p), ev_I y6], [], c, s) (384, lk, d, wn, tt, e, q) P := by
  obtain ⟨b4, -, -, r6, h39, hτ⟩ := h.1.bds
  obtain ⟨k, e1, hk, x1, x2⟩ := lw_draw (n := 384) (lk := lk) (d := d) (wn := wn) (tt := tt) (e := e) (q := q) (j := g) (m := 7) (by omega) (by omega)
  have h1 := AS_g h x2
  obtain ⟨-, T, hG, -⟩ := id h1.1
  obtain ⟨S, hS4, hS⟩ := SI_S hG.2.2.2.2.2.2
  obtain ⟨L, hL2, hL⟩ := ev_sa0_n k hk
  obtain ⟨H, hH4, hH1, hH, hH0⟩ := ev_sa1_n k hk
  obtain ⟨s3, s4⟩ := sa_34 k hk
  have hI := hG.2.2.2.2.2.2
  have i7 := ni_in (n := k) (N := 7) hk (by omega)
  have c7 := ni_c (n := k) (by omega)
  -- the end
  have last : ∀ e2 y9 : _, AS σ d e2 i j B R C τ → ER (280, 406, [ev_R 27 0, ev_R 200 i, ev_R 200 j, ev_R 208 g, ev_I z, ev_I (Int32.ofNat p), ev_I y6, ev_I (Int32.ofNat k), ev_I (ms_ls (fun m => ms_tl (d 45 0) C R B (ms_sS k S m) p (ev_u1 (d 46 0) k (Int32.ofNat m))) (H + 1 - L) L), ev_I y9], [], c, s) (384, lk, d, wn, tt, e2, q) P := fun e2 y9 h2 => by
    obtain ⟨d2, f2, q2⟩ := gl_call (wn, tt, e2, q) (ol_leastSetting hl hG hS hS4 (k := k) (p := p) hk hp1 (by omega) hL2 hL hH4 hH1 hH hH0)
    refine ER_bk ?_
    rw [bk_280_406, ble2 (by omega) (by omega), cond_true, q2, if_pos rfl]
    exact ⟨_, rfl, kk d2 e2 (AS_GF h2 f2)⟩
  have loop : ∀ f m, m + f = H + 1 → L ≤ m → ∀ e2, AS σ d e2 i j B R C τ → (∀ e3 y9, AS σ d e3 i j B R C τ → ER (280, 406, [ev_R 27 0, ev_R 200 i, ev_R 200 j, ev_R 208 g, ev_I z, ev_I (Int32.ofNat p), ev_I y6, ev_I (Int32.ofNat k), ev_I (ms_ls (fun m => ms_tl (d 45 0) C R B (ms_sS k S m) p (ev_u1 (d 46 0) k (Int32.ofNat m))) f m), ev_I y9], [], c, s) (384, lk, d, wn, tt, e3, q) P) →
      ER (280, 358, [ev_R 27 0, ev_R 200 i, ev_R 200 j, ev_R 208 g, ev_I z, ev_I (Int32.ofNat p), ev_I y6, ev_I (Int32.ofNat k), ev_I (-1), ev_I (Int32.ofNat m)], [], c, s) (384, lk, d, wn, tt, e2, q) P := by
    intro f
    induction f with
    | zero =>
      intro m hm hLm e2 h2 kk2
      refine ER_bk ?_
      rw [bk_280_358, i7, cond_true, c7, s4, hH, if_neg (fun y => absurd ((ni_le (by omega) (by omega)).mp y) (by omega))]
      exact kk2 e2 _ h2
    | succ f ih =>
      intro m hm hLm e2 h2 kk2
      obtain ⟨e3, y1, y2, y3⟩ := as_be (n := 384) (lk := lk) (wn := wn) (tt := tt) hq hq' hij h2 hG
      have hlo : ev_sa 0 k ≤ Int32.ofNat m := by rw [hL]; exact (ni_le (by omega) (by omega)).mpr hLm
      have hhi : Int32.ofNat m ≤ ev_sa 1 k := by rw [hH]; exact (ni_le (by omega) (by omega)).mpr (by omega)
      have m3 := LM_set y3 hk hlo hhi (by omega)
      have f3 : LF e3 (ev_u3 e3 202 (j + 1) k (Int32.ofNat m)) j := (LF.rf e3 j).put (la_set hk)
      have hS' : ev_u1 (d 46 0) k (Int32.ofNat m) 0 = Int32.ofNat (ms_sS k S m) := by
        unfold ms_sS
        by_cases k0 : k = 0
        · subst k0
          rw [u1s, if_pos rfl]
        · rw [u1n (by omega), if_neg k0]
          exact hS
      have hS4' : ms_sS k S m ≤ 4 := by
        unfold ms_sS
        by_cases k0 : k = 0
        · rw [if_pos k0]
          have := hH0 k0
          omega
        · rw [if_neg k0]
          exact hS4
      obtain ⟨e4, z1, z2, z3⟩ := lm_steps (n := 384) (lk := lk) (d := d) (wn := wn) (tt := tt) (q := q) hq' hG.2.1 hS4' (k := p) (by omega) hS' m3
      obtain ⟨l, hl1, hl2, hl3⟩ := ms_ticks_14 (S := ms_sS k S m) hG.2.1 p τ _ (SI_set hI hk hlo hhi (by omega)) (by omega)
      have ev : ms_ticks (d 45 0) (ev_u1 (d 46 0) k (Int32.ofNat m)) C R B (ms_sS k S m) p 14 - ev_u1 (d 46 0) k (Int32.ofNat m) 14 = Int32.ofNat l := by
        rw [hl2, Int32.add_comm, Int32.add_sub_cancel]
      rw [ev] at z1
      have h4 := AS_x y2 hij (f3.tr z3) (LM_LV z2)
      have hst : ms_ls (fun m => ms_tl (d 45 0) C R B (ms_sS k S m) p (ev_u1 (d 46 0) k (Int32.ofNat m))) (f + 1) m = if ms_tl (d 45 0) C R B (ms_sS k S m) p (ev_u1 (d 46 0) k (Int32.ofNat m)) = -1 then Int32.ofNat m else ms_ls (fun m => ms_tl (d 45 0) C R B (ms_sS k S m) p (ev_u1 (d 46 0) k (Int32.ofNat m))) f (m + 1) := rfl
      refine ER_bk ?_
      rw [bk_280_358, i7, cond_true, c7, s4, hH, if_pos ((ni_le (by omega) (by omega)).mpr (by omega)), if_pos (by decide)]
      simp only [Nat.add_zero, ble2 (show c ≤ 40 by omega) (show s ≤ 300 by omega), cond_true]
      rw [y1, br_ok, show Nat.beq 200 200 = true from rfl, cond_true]
      simp only [hq'.1.1, ev_lq_s]
      rw [z1, bi_ok]
      by_cases l0 : l = 0
      · have fin := fun e3 y9 => kk2 e3 y9
        rw [hst, if_pos (hl3.mp l0)] at fin
        have n0 : ¬ Int32.ofNat m < 0 := fun y => absurd ((ni_lt (b := 0) (by omega) (by omega)).mp y) (by omega)
        rw [if_pos (by rw [l0]; rfl)]
        refine ER_bk ?_
        rw [bk_280_400]
        refine ER_bk ?_
        rw [bk_280_358, i7, cond_true]
        split
        · first
            | exact fin e4 _ h4
            | (rw [if_neg n0]; exact fin e4 _ h4)
        · exact fin e4 _ h4
      · rw [if_neg (show ¬ Int32.ofNat l = 0 from fun y => l0 ((ni_eq (b := 0) (by omega) (by omega)).mp y))]
        refine ER_bk ?_
        rw [bk_280_400, ni_1]
        refine ih (m + 1) (by omega) (by omega) e4 h4 fun e5 y9 h5 => ?_
        have := kk2 e5 y9 h5
        rw [hst, if_neg (fun y => l0 (hl3.mpr y))] at this
        exact this
  refine ER_bk ?_
  rw [bk_280_339]
  simp only [Nat.add_zero, ble2 (show c ≤ 40 by omega) (show s ≤ 300 by omega), cond_true]
  rw [show (7 : Int32) = Int32.ofNat 7 from rfl, x1, bi_ok, i7, cond_true, c7, s3, hL]
  exact loop (H + 1 - L) L (by omega) (Nat.le_refl L) e1 h1 last
/-- asks: all that would be agrees -/
theorem as_asks (hl : LK lk) (hq : LQ q i) (hq' : LQ q j) (hij : i + 45 ≤ j) (h : AS σ d e i j B R C τ)
    (kk : ∀ d' e', AS σ d' e' i j B R C τ → P (.inl (some (ev_I 1)), (384, lk, d', wn, tt, e', q))) :
    ER (280, 0, [ev_R 27 0, ev_R 200 i, ev_R 200 j, ev_R 208 g], [], 0, 0) (384, lk, d, wn, tt, e, q) P := by
  refine as_next hl hq hq' hij h fun d1 e1 c1 s1 h1 x1 x2 => ?_
  refine as_loss hl hq hq' hij h1 (by omega) (by omega) fun d2 e2 z z' h2 => ?_
  refine as_ahead hl hq hq' hij h2 (by omega) (by omega) fun d3 e3 z3 k hk1 hk h3 => ?_
  refine as_gain hl hq hq' hij h3 hk1 hk (by omega) (by omega) fun d4 e4 z4 h4 => ?_
  refine as_wait hl hq hq' hij h4 (by omega) (by omega) fun d5 e5 c5 s5 y1 y2 h5 => ?_
  exact as_least hl hq hq' hij h5 hk1 hk (by omega) (by omega) kk
end AS4
