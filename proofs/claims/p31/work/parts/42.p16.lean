/-! THE LAW'S METHODS, 16: changes -/
variable {σ : Int32}
section CH2
variable {lk : Nat → Nat → Nat → Bool} {d : Nat → Nat → Nat → Int32} {wn : Nat} {tt : Nat → Nat} {e : Nat → Nat → Nat → Int32} {q : Nat → Nat → Nat → Nat} {i j g B R C τ : Nat} {P : ev_O × ev_M → Prop}
/-- how a change of the law's Memory leaves the other one -/
theorem AS_i {d' e' : Nat → Nat → Nat → Int32} {C' τ' : Nat} (h : AS σ d e i j B R C τ) (hij : i + 45 ≤ j) (hf : LF e e' i) (hR : LR σ d' e' i B R C' τ') : AS σ d' e' i j B R C' τ' := by
  obtain ⟨-, t, w, u, h2⟩ := h
  refine ⟨hR, t, w, u, fun r x p T K ha => ?_⟩
  have := LA_bd ha
  rw [hf r x p (by omega)]
  exact h2 _ _ _ _ _ ha
theorem ch_set (hl : LK lk) (hq : LQ q i) (hij : i + 45 ≤ j) (h : AS σ d e i j B R C τ) {y : Int32}
    (kk : ∀ d' e', AS σ d' e' i j B R C τ → P (.inl (some (ev_I 1)), (384, lk, d', wn, tt, e', q))) :
    ER (281, 48, [ev_R 27 0, ev_R 200 i, ev_R 208 g, ev_I y], [], 0, 0) (384, lk, d, wn, tt, e, q) P := by
  obtain ⟨b4, -, -, r6, h39, hτ⟩ := h.1.bds
  obtain ⟨k, e1, hk, x1, x2⟩ := lw_draw (n := 384) (lk := lk) (d := d) (wn := wn) (tt := tt) (e := e) (q := q) (j := g) (m := 7) (by omega) (by omega)
  have h1 := AS_g h x2
  obtain ⟨-, T, hG, hM, hP⟩ := id h1.1
  obtain ⟨L, hL2, hL⟩ := ev_sa0_n k hk
  obtain ⟨H, hH4, hH1, hH, hH0⟩ := ev_sa1_n k hk
  obtain ⟨s3, s4⟩ := sa_34 k hk
  have i7 := ni_in (n := k) (N := 7) hk (by omega)
  have c7 := ni_c (n := k) (by omega)
  obtain ⟨m, hm1, hm9, hmH, em⟩ : ∃ m, 1 ≤ m ∧ m ≤ 9 ∧ L + m ≤ H + 1 ∧ (if ((ev_sa 4 k - ev_sa 3 k) + (1 : Int32)) < (9 : Int32) then ((ev_sa 4 k - ev_sa 3 k) + (1 : Int32)) else (9 : Int32)) = Int32.ofNat m := by
    have e1 : ev_sa 4 k - ev_sa 3 k + 1 = Int32.ofNat (H + 1 - L) := by
      rw [s3, s4, hL, hH]
      refine Int32.toInt_inj.mp ?_
      have t1 : (1 : Int32).toInt = 1 := by decide
      rw [i32_add, i32_sub, ni_t (by omega), ni_t (by omega), ni_t (by omega), t1] <;> (try rw [i32_sub, ni_t (by omega), ni_t (by omega)]) <;> (try rw [ni_t (by omega), ni_t (by omega)]) <;> (try rw [t1]) <;> omega
    rw [e1]
    by_cases c : Int32.ofNat (H + 1 - L) < 9
    · rw [if_pos c]
      have := (ni_lt (b := 9) (by omega) (by omega)).mp c
      exact ⟨H + 1 - L, by omega, by omega, by omega, rfl⟩
    · rw [if_neg c]
      have : ¬ H + 1 - L < 9 := fun z => c ((ni_lt (b := 9) (by omega) (by omega)).mpr z)
      exact ⟨9, by omega, by omega, by omega, rfl⟩
  obtain ⟨v0, e2, hv0, y1, y2⟩ := lw_draw (n := 384) (lk := lk) (d := d) (wn := wn) (tt := tt) (e := e1) (q := q) (j := g) (m := m) hm1 (by omega)
  have h2 := AS_g h1 y2
  obtain ⟨-, T2, hG2, hM2, hP2⟩ := id h2.1
  have ev : ev_sa 3 k + Int32.ofNat v0 = Int32.ofNat (L + v0) := by rw [s3, hL, Int32.ofNat_add]
  have hlo : ev_sa 0 k ≤ Int32.ofNat (L + v0) := by rw [hL]; exact (ni_le (by omega) (by omega)).mpr (by omega)
  have hhi : Int32.ofNat (L + v0) ≤ ev_sa 1 k := by rw [hH]; exact (ni_le (by omega) (by omega)).mpr (by omega)
  have m3 := LM_set hM2 hk hlo hhi (by omega)
  have f3 : LF e2 (ev_u3 e2 202 (i + 1) k (Int32.ofNat (L + v0))) i := (LF.rf e2 i).put (la_set hk)
  obtain ⟨d2, g1, g2, g3, q2⟩ := gc_call (wn, tt, ev_u3 e2 202 (i + 1) k (Int32.ofNat (L + v0)), q) (ol_set hl hG2 (k := k) (v := L + v0) hk (by omega) ⟨hlo, hhi⟩)
  have was : e1 202 (i + 1) k = d 46 0 k := by
    obtain ⟨u, K, hV, -⟩ := hM
    exact hV _ _ _ _ _ (la_set hk)
  have k9 := hq.1.1
  refine ER_bk ?_
  rw [bk_281_48]
  simp only [Nat.add_zero, Nat.zero_add, show (Nat.ble 0 10 && Nat.ble 0 60) = true from rfl, show (Nat.ble 2 10 && Nat.ble 12 60) = true from rfl, cond_true]
  rw [show (7 : Int32) = Int32.ofNat 7 from rfl, x1, bi_ok]
  simp only [k9, ev_lq_s, i7, cond_true, c7, em]
  rw [y1, bi_ok]
  simp only [k9, ev_lq_s, ev, u3s]
  rw [q2, if_pos (show d 46 0 k = e1 202 (i + 1) k from was.symm)]
  exact ⟨_, rfl, kk d2 _ (AS_i h2 hij f3 (LR_new h2.1.1.2.2 g1 g2 g3 hG2.2.1 m3 (PW_lo hP2 (by omega)) r6 h39))⟩
theorem ch_trading (hl : LK lk) (hq : LQ q i) (hij : i + 45 ≤ j) (h : AS σ d e i j B R C τ) {y : Int32}
    (kk : ∀ d' e', AS σ d' e' i j B R C τ → P (.inl (some (ev_I 1)), (384, lk, d', wn, tt, e', q))) :
    ER (281, 127, [ev_R 27 0, ev_R 200 i, ev_R 208 g, ev_I y], [], 0, 0) (384, lk, d, wn, tt, e, q) P := by
  obtain ⟨b4, -, -, r6, h39, hτ⟩ := h.1.bds
  obtain ⟨k, e1, hk, x1, x2⟩ := lw_draw (n := 384) (lk := lk) (d := d) (wn := wn) (tt := tt) (e := e) (q := q) (j := g) (m := 2) (by omega) (by omega)
  have h1 := AS_g h x2
  obtain ⟨-, T, hG, hM, hP⟩ := id h1.1
  have was : e 200 i 8 = d 46 0 7 := by
    obtain ⟨-, T0, -, ⟨u, K, hV, -⟩, -⟩ := id h.1
    exact hV _ _ _ _ _ la_trad
  have go : ∀ v : Int32, v = 0 ∨ v = 1 → ∃ d2, AS σ d2 (ev_u3 e1 200 i 8 v) i j B R C τ ∧ ∀ K : Int32 → ev_M → ev_T, ev_bi (EV (111, 0, [ev_R 27 0, ev_I v], [], 0, 0) (384, lk, d, wn, tt, ev_u3 e1 200 i 8 v, q)) ev_no (fun z μ1 => ev_gh (EV (217, 0, [ev_R 44 0, ev_I v], [], 0, 0) μ1) μ1 (fun ν => K z ν)) = K (d 46 0 7) (384, lk, d2, wn, tt, ev_u3 e1 200 i 8 v, q) := fun v hv => by
    have m1 : LM (ev_u3 e1 200 i 8 v) i (d 45 0) (ev_u1 (d 46 0) 7 v) B R C T τ := LM_lo hM la_trad (by omega) (SI_trading hG.2.2.2.2.2.2 hv) (fun z => by omega)
    obtain ⟨d2, g1, g2, g3, q2⟩ := gc_call (wn, tt, ev_u3 e1 200 i 8 v, q) (ol_setTrading hl hG hv)
    exact ⟨d2, AS_i h1 hij ((LF.rf e1 i).put la_trad) (LR_new h1.1.1.2.2 g1 g2 g3 hG.2.1 m1 (PW_lo hP (by omega)) r6 h39), q2⟩
  refine ER_bk ?_
  rw [bk_281_127]
  simp only [Nat.add_zero, show (Nat.ble 0 10 && Nat.ble 0 60) = true from rfl, cond_true]
  rw [show (2 : Int32) = Int32.ofNat 2 from rfl, x1, bi_ok]
  simp only [u3s]
  split
  · obtain ⟨d2, a1, q2⟩ := go 1 (.inr rfl)
    rw [q2, if_pos was.symm]
    exact ⟨_, rfl, kk d2 _ a1⟩
  · obtain ⟨d2, a1, q2⟩ := go 0 (.inl rfl)
    rw [q2, if_pos was.symm]
    exact ⟨_, rfl, kk d2 _ a1⟩
theorem ch_pass (hl : LK lk) (hq : LQ q i) (hij : i + 45 ≤ j) (h : AS σ d e i j B R C τ) (hτ' : τ + 20 ≤ 2000) {y : Int32}
    (kk : ∀ d' e' τ', τ' ≤ τ + 20 → AS σ d' e' i j B R C τ' → P (.inl (some (ev_I 1)), (384, lk, d', wn, tt, e', q))) :
    ER (281, 329, [ev_R 27 0, ev_R 200 i, ev_R 208 g, ev_I y], [], 0, 0) (384, lk, d, wn, tt, e, q) P := by
  obtain ⟨b4, -, -, r6, h39, hτ⟩ := h.1.bds
  obtain ⟨k, e1, hk, x1, x2⟩ := lw_draw (n := 384) (lk := lk) (d := d) (wn := wn) (tt := tt) (e := e) (q := q) (j := g) (m := 2) (by omega) (by omega)
  have h1 := AS_g h x2
  -- n ticks
  have go : ∀ m e2, m < 20 → AS σ d e2 i j B R C τ → ∃ d2 e3 v, (∃ τ', τ' ≤ τ + 20 ∧ AS σ d2 e3 i j B R C τ') ∧ (∀ K : Int32 → ev_M → ev_T, ev_bi (EV (107, 0, [ev_R 27 0, ev_I (Int32.ofNat (1 + m))], [], 0, 0) (384, lk, d, wn, tt, e2, q)) ev_no (fun z μ1 => ev_gh (EV (213, 0, [ev_R 44 0, ev_I (Int32.ofNat (1 + m))], [], 0, 0) μ1) μ1 (fun ν => K z ν)) = K v (384, lk, d2, wn, tt, e2, q)) ∧
      EV (274, 0, [ev_R 200 i, ev_I (Int32.ofNat (1 + m))], [], 0, 0) (384, lk, d2, wn, tt, e2, q) = some (.inl (some (ev_I v)), (384, lk, d2, wn, tt, e3, q)) := fun m e2 hm h2 => by
    obtain ⟨-, T, hG, hM, hP⟩ := id h2.1
    obtain ⟨S, hS4, hS⟩ := SI_S hG.2.2.2.2.2.2
    obtain ⟨d2, g1, g2, g3, q2⟩ := gc_call (wn, tt, e2, q) (ol_pass hl hG hS hS4 (k := 1 + m) (by omega) (by omega) (by omega))
    obtain ⟨e3, z1, z2, z3⟩ := lm_steps (n := 384) (lk := lk) (d := d2) (wn := wn) (tt := tt) (q := q) hq hG.2.1 hS4 (k := 1 + m) (by omega) hS hM
    obtain ⟨p1, -⟩ := PW_ticks (S := S) hG.2.1 (1 + m) τ (d 46 0) hG.2.2.2.2.2.2 (by omega) hP
    exact ⟨d2, e3, _, ⟨τ + (1 + m), by omega, AS_i h2 hij z3 (LR_new h2.1.1.2.2 g1 g2 g3 hG.2.1 z2 p1 r6 h39)⟩, q2, z1⟩
  refine ER_bk ?_
  rw [bk_281_329]
  simp only [Nat.add_zero, Nat.zero_add, show (Nat.ble 0 10 && Nat.ble 0 60) = true from rfl, show (Nat.ble 2 10 && Nat.ble 12 60) = true from rfl, cond_true]
  rw [show (2 : Int32) = Int32.ofNat 2 from rfl, x1, bi_ok]
  split
  · obtain ⟨m, e2, hm, y1, y2⟩ := lw_draw (n := 384) (lk := lk) (d := d) (wn := wn) (tt := tt) (e := e1) (q := q) (j := g) (m := 20) (by omega) (by omega)
    obtain ⟨d2, e3, v, ⟨τ', t1, a1⟩, q2, z1⟩ := go m e2 hm (AS_g h1 y2)
    rw [show (20 : Int32) = Int32.ofNat 20 from rfl, y1, bi_ok, show (1 : Int32) + Int32.ofNat m = Int32.ofNat (1 + m) from (Int32.ofNat_add 1 m).symm, q2, z1, bi_ok, if_pos rfl]
    exact ⟨_, rfl, kk d2 e3 τ' t1 a1⟩
  · obtain ⟨m, e2, hm, y1, y2⟩ := lw_draw (n := 384) (lk := lk) (d := d) (wn := wn) (tt := tt) (e := e1) (q := q) (j := g) (m := 3) (by omega) (by omega)
    obtain ⟨d2, e3, v, ⟨τ', t1, a1⟩, q2, z1⟩ := go m e2 (by omega) (AS_g h1 y2)
    rw [show (3 : Int32) = Int32.ofNat 3 from rfl, y1, bi_ok, show (1 : Int32) + Int32.ofNat m = Int32.ofNat (1 + m) from (Int32.ofNat_add 1 m).symm, q2, z1, bi_ok, if_pos rfl]
    exact ⟨_, rfl, kk d2 e3 τ' t1 a1⟩
theorem ch_ask (hl : LK lk) (hq : LQ q i) (hij : i + 45 ≤ j) (h : AS σ d e i j B R C τ) {b : Nat} (hb : b < B)
    (kk : ∀ d' e' C', C' ≤ C + 1 → AS σ d' e' i j B R C' τ → P (.inl (some (ev_I 1)), (384, lk, d', wn, tt, e', q))) :
    ER (281, 271, [ev_R 27 0, ev_R 200 i, ev_R 208 g, ev_I (Int32.ofNat b)], [], 0, 0) (384, lk, d, wn, tt, e, q) P := by
  obtain ⟨b4, -, r1, r6, h39, hτ⟩ := h.1.bds
  obtain ⟨-, T, hG, ⟨u, K, hV, hI, hC, -⟩, -⟩ := id h.1
  have e5 : e 200 i 5 = Int32.ofNat C := (hV _ _ _ _ _ la_reqs).trans hC
  have eR : e 200 i 1 = Int32.ofNat R := (hV _ _ _ _ _ (la_f (k := 1) (by omega))).trans hG.2.1.1.2.1
  refine ER_bk ?_
  rw [bk_281_271, e5]
  by_cases c38 : C ≤ 38
  · rw [if_pos (show Int32.ofNat C ≤ 38 from (ni_le (b := 38) (by omega) (by omega)).mpr c38)]
    obtain ⟨r, e1, hr, x1, x2⟩ := lw_draw (n := 384) (lk := lk) (d := d) (wn := wn) (tt := tt) (e := e) (q := q) (j := g) (m := R) r1 (by omega)
    have h1 := AS_g h x2
    obtain ⟨-, T1, hG1, hM1, hP1⟩ := id h1.1
    have e4 : e1 200 i 4 = d 46 0 8 := by
      obtain ⟨u, K, hV, -⟩ := hM1
      exact hV _ _ _ _ _ la_time
    obtain ⟨e2, e3, y1, y2, y3, y4⟩ := LM_ask (n := 384) (lk := lk) (d := d) (wn := wn) (tt := tt) hq hM1 b4 hb hr (by omega)
    obtain ⟨d2, g1, g2, g3, q2⟩ := gc_call (wn, tt, e3, q) (ol_ask hl hG1 hb hr (by omega))
    refine ER_bk ?_
    rw [bk_281_282, eR]
    simp only [Nat.add_zero, Nat.zero_add, show (Nat.ble 0 10 && Nat.ble 0 60) = true from rfl, show (Nat.ble 2 10 && Nat.ble 12 60) = true from rfl, cond_true]
    rw [x1, bi_ok]
    simp only [e4]
    rw [y1, bi_ok, y2, bv_ok, q2, if_pos rfl]
    exact ⟨_, rfl, kk d2 e3 (C + 1) (Nat.le_refl _) (AS_i h1 hij y4 (LR_new h1.1.1.2.2 g1 g2 g3 hG1.2.1 y3 (PW_ask hP1 b4) r6 (by omega)))⟩
  · rw [if_neg (show ¬ Int32.ofNat C ≤ 38 from fun z => c38 ((ni_le (b := 38) (by omega) (by omega)).mp z))]
    exact ⟨_, rfl, kk d e C (by omega) h⟩
theorem ch_trade (hl : LK lk) (hq : LQ q i) (hij : i + 45 ≤ j) (h : AS σ d e i j B R C τ) {b : Nat} (hb : b < B)
    (kk : ∀ d' e', AS σ d' e' i j B R C τ → P (.inl (some (ev_I 1)), (384, lk, d', wn, tt, e', q))) :
    ER (281, 169, [ev_R 27 0, ev_R 200 i, ev_R 208 g, ev_I (Int32.ofNat b)], [], 0, 0) (384, lk, d, wn, tt, e, q) P := by
  obtain ⟨b4, b1, r1, r6, h39, hτ⟩ := h.1.bds
  obtain ⟨-, T, hG, ⟨u, K, hV, hI, hC, -⟩, -⟩ := id h.1
  have eB : e 200 i 0 = Int32.ofNat B := (hV _ _ _ _ _ (la_f (k := 0) (by omega))).trans hG.2.1.1.1
  obtain ⟨k, e1, hk, x1, x2⟩ := lw_draw (n := 384) (lk := lk) (d := d) (wn := wn) (tt := tt) (e := e) (q := q) (j := g) (m := B) b1 (by omega)
  have h1 := AS_g h x2
  obtain ⟨-, T1, hG1, hM1, hP1⟩ := id h1.1
  obtain ⟨u1, K1, hV1, hI1, -⟩ := id hM1
  have k4 : k < 4 := by omega
  have hb4 : b < 4 := by omega
  have hh := lm_hot (n := 384) (lk := lk) (d := d) (wn := wn) (tt := tt) hq hV1 k4
  have d0 : e1 201 (i + 9 + 9 * k) 0 = d 46 0 (19 + 9 * k + 0) := hV1 _ _ _ _ _ (la_bk k4 (k := 0) (by omega))
  have db : e1 201 (i + 9 + 9 * b) 0 = d 46 0 (19 + 9 * b + 0) := hV1 _ _ _ _ _ (la_bk hb4 (k := 0) (by omega))
  have s1 : e1 202 (i + 1) 1 = d 46 0 1 := hV1 _ _ _ _ _ (la_set (k := 1) (by omega))
  have s2 : e1 202 (i + 1) 2 = d 46 0 2 := hV1 _ _ _ _ _ (la_set (k := 2) (by omega))
  have k9 := hq.1.1
  have k16 := hq.1.2.2.2.2.2.2.2
  have stay := kk d e1 h1
  have six : (d 46 0 (19 + 9 * b + 0) + d 46 0 2 ≤ 0) ↔ ¬ (-(d 46 0 2) < d 46 0 (19 + 9 * b + 0)) := by
    obtain ⟨a1, a2⟩ := hI1.2.2.2.1.2.2.1
    obtain ⟨a3, a4⟩ := hI1.2.2.2.2.1 b hb4
    have z0 : (0 : Int32).toInt = 0 := by decide
    rw [i32_le, i32_lt, i32_add (by omega) (by omega), i32_neg (by omega), z0]
    omega
  refine ER_bk ?_
  rw [bk_281_169, eB]
  simp only [Nat.add_zero, show (Nat.ble 0 10 && Nat.ble 0 60) = true from rfl, cond_true]
  rw [x1, bi_ok]
  simp only [k16, k9, ev_lq_s, ni_in (n := k) (N := 4) k4 (by omega), ni_c (n := k) (by omega), ni_in (n := b) (N := 4) hb4 (by omega), ni_c (n := b) (by omega), (hq.2 k k4).1, (hq.2 b hb4).1, cond_true]
  by_cases ekb : k = b
  · rw [if_pos (by rw [ekb])]
    exact ⟨_, rfl, stay⟩
  · rw [if_neg (fun z => ekb ((ni_eq (by omega) (by omega)).mp z)), hh, bi_ok]
    simp only [k16, k9, ev_lq_s, ni_in (n := b) (N := 4) hb4 (by omega), ni_c (n := b) (by omega), (hq.2 b hb4).1, cond_true, d0, db, s1, s2]
    by_cases hot : ms_hot (d 46 0) k
    · rw [if_pos hot, if_neg (show ¬ (1 : Int32) = 0 by decide)]
      exact ⟨_, rfl, stay⟩
    · rw [if_neg hot, if_pos rfl]
      by_cases c1 : d 46 0 (19 + 9 * k + 0) < d 46 0 1
      · rw [if_pos c1]
        by_cases c2 : d 46 0 (19 + 9 * b + 0) + d 46 0 2 ≤ 0
        · rw [if_pos c2]
          exact ⟨_, rfl, stay⟩
        · have zd := Decidable.not_not.mp (fun z => c2 (six.mpr z))
          obtain ⟨e2, y1, y2, y3⟩ := LM_move (n := 384) (lk := lk) (d := d) (wn := wn) (tt := tt) hq hM1 hb4 k4 zd c1
          obtain ⟨d2, g1, g2, g3, q2⟩ := gc_call (wn, tt, e2, q) (ol_trade hl hG1 hb hk (fun z => ekb z.symm) ⟨hot, c1⟩ zd)
          have ed : e2 201 (i + 9 + 9 * k) 0 = ms_moves (d 46 0) b k (19 + 9 * k + 0) := by
            obtain ⟨u, K, hV, -⟩ := y2
            exact hV _ _ _ _ _ (la_bk k4 (k := 0) (by omega))
          rw [if_neg c2]
          refine ER_bk ?_
          rw [bk_281_238]
          simp only [k16, ev_lq_s, ni_in (n := b) (N := 4) hb4 (by omega), ni_c (n := b) (by omega), (hq.2 b hb4).1, cond_true, Nat.add_zero, Nat.zero_add, show (Nat.ble 0 10 && Nat.ble 0 60) = true from rfl, show (Nat.ble 4 10 && Nat.ble 24 60) = true from rfl]
          rw [y1, bv_ok, q2]
          simp only [ed, ↓reduceIte]
          exact ⟨_, rfl, kk d2 e2 (AS_i h1 hij y3 (LR_new h1.1.1.2.2 g1 g2 g3 hG1.2.1 y2 (PW_move hP1 b4 hb hk) r6 h39))⟩
      · rw [if_neg c1]
        exact ⟨_, rfl, stay⟩
/-- changes: one of six, alike in all -/
theorem ch_changes (hl : LK lk) (hq : LQ q i) (hij : i + 45 ≤ j) (h : AS σ d e i j B R C τ) (hτ' : τ + 20 ≤ 2000)
    (kk : ∀ d' e' C' τ', C' ≤ C + 1 → τ' ≤ τ + 20 → AS σ d' e' i j B R C' τ' → P (.inl (some (ev_I 1)), (384, lk, d', wn, tt, e', q))) :
    ER (281, 0, [ev_R 27 0, ev_R 200 i, ev_R 208 g], [], 0, 0) (384, lk, d, wn, tt, e, q) P := by
  obtain ⟨b4, b1, r1, r6, h39, hτ⟩ := h.1.bds
  obtain ⟨-, T, hG, ⟨u, K, hV, hI, hC, -⟩, -⟩ := id h.1
  have eB : e 200 i 0 = Int32.ofNat B := (hV _ _ _ _ _ (la_f (k := 0) (by omega))).trans hG.2.1.1.1
  obtain ⟨b, e1, hb, x1, x2⟩ := lw_draw (n := 384) (lk := lk) (d := d) (wn := wn) (tt := tt) (e := e) (q := q) (j := g) (m := B) b1 (by omega)
  obtain ⟨k, e2, hk, y1, y2⟩ := lw_draw (n := 384) (lk := lk) (d := d) (wn := wn) (tt := tt) (e := e1) (q := q) (j := g) (m := 8) (by omega) (by omega)
  have h2 := AS_g (AS_g h x2) y2
  refine ER_bk ?_
  rw [bk_281_0, eB, x1, bi_ok, show (8 : Int32) = Int32.ofNat 8 from rfl, y1, bi_ok]
  split
  · exact ch_set hl hq hij h2 fun d' e' a => kk d' e' C τ (by omega) (by omega) a
  · split
    · exact ch_trading hl hq hij h2 fun d' e' a => kk d' e' C τ (by omega) (by omega) a
    · split
      · exact ch_trade hl hq hij h2 hb fun d' e' a => kk d' e' C τ (by omega) (by omega) a
      · split
        · exact ch_ask hl hq hij h2 hb fun d' e' C' a b => kk d' e' C' τ a (by omega) b
        · split
          · exact ch_ask hl hq hij h2 hb fun d' e' C' a b => kk d' e' C' τ a (by omega) b
          · exact ch_pass hl hq hij h2 hτ' fun d' e' τ' a b => kk d' e' C τ' (by omega) a b
end CH2
