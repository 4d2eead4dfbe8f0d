/-! THE PROGRAM AGAINST THE REFERENCE, 38: the next tick, waits -/
theorem ms_tick_67 {t w : Nat → Int32} {B R C T τ S b : Nat} (hT : TC t B R) (h : SI w B R C T τ) (hb : b < B) :
    ms_tick t w C R B S (19 + 9 * b + 6) = Int32.ofNat (ms_wi t (ms_pre t w C B) C R b) ∧ ms_tick t w C R B S (19 + 9 * b + 7) = ms_b01 (ms_gg t (ms_pre t w C B) C R B S b) := by
  obtain ⟨⟨t0, t1, b1, b4, r1, r16⟩, -⟩ := id hT
  have prow : ∀ q, q < C → ∃ r, r < 16 ∧ ms_pre t w C B (375 + 6 * q + 1) = Int32.ofNat r := fun q hq => by
    obtain ⟨r, hr, e⟩ := SI_row h r16 q hq
    exact ⟨r, hr, by rw [ms_pre_q1 (k := 1) (by omega) b4, e]⟩
  unfold ms_tick
  generalize ms_pre t w C B = p at *
  have hTS : ms_TS B (ms_sv t p C R B S) (ms_to t p C R B S) := fun b hb => by
    obtain ⟨y1, y2⟩ := ms_sv_to (t := t) (S := S) (B := B) (b := b) r16 prow
    exact ⟨y2, fun q hq => (y1 q hq).2⟩
  have ra := (ms_RA_acts (p := p) (V0 := ms_wg t p (ms_wk t p R) (ms_wi t p C R) B S) (wi := ms_wi t p C R) (g := ms_gg t p C R B S) b4 hTS (fun k hk => by
    unfold ms_wg
    rw [ms_fs_n (fun b hb => (hk b hb).2), ms_fs_n (fun b hb => (hk b hb).1)]) (fun b hb => ⟨ms_wg6 hb, ms_wg7 hb⟩) B (Nat.le_refl B)).1
  have en : ∀ (W : Nat → Int32) k, k ≠ 8 → ms_end W k = W k := fun W k hk => u1n hk
  refine ⟨?_, ?_⟩
  · rw [en _ _ (by omega), ms_grow_n (.inl (by omega)) (by omega) (fun b hb => by omega) r16 B b4, ← ra _ (fun b' x y => by omega) (ms_TX_lo (by omega)), mc_acts_k hTS b4 (.inr (.inr (.inr (.inl ⟨b, by omega, by omega⟩)))) B (Nat.le_refl B), ms_wg6 hb]
  · rw [en _ _ (by omega), ms_grow_n (.inl (by omega)) (by omega) (fun b hb => by omega) r16 B b4, ← ra _ (fun b' x y => by omega) (ms_TX_lo (by omega)), mc_acts_k hTS b4 (.inr (.inr (.inr (.inl ⟨b, by omega, by omega⟩)))) B (Nat.le_refl B), ms_wg7 hb]
    rfl
theorem ms_same_plans {d d' : Nat → Nat → Nat → Int32} (h : ∀ r, r ≠ 46 → r ≠ 51 → r ≠ 52 → r ≠ 53 → r ≠ 54 → r ≠ 55 → d' r = d r) : ms_same d d' := fun r h1 h2 h3 h4 h5 h6 _ => h r h1 h2 h3 h4 h5 h6
theorem FTk45 {d d' : Nat → Nat → Nat → Int32} (h : GF d d') : d' 45 0 = d 45 0 := h.2.2.2.2.1.1
section EC27
variable {n : Nat} {lk : Nat → Nat → Nat → Bool} {d : Nat → Nat → Nat → Int32} {o : ev_W}
theorem op_next (hl : LK lk) (h : GI d) {x y : Int32} : OPH (97, 0, [ev_R 27 0, ev_I x, ev_I y], [], 0, 0) (202, 0, [ev_R 44 0, ev_I x, ev_I y], [], 0, 0) kf_B lk d := by
  obtain ⟨B, R, T, C, τ, S, g1, g2, g3, hτ, hS, hS4, htr⟩ := GI_trial h
  obtain ⟨⟨t0, t1, b1, b4, r1, r16⟩, -⟩ := id g1
  have hB := g2.1.1.trans t0
  by_cases zb : 0 ≤ x ∧ x < Int32.ofNat B
  · obtain ⟨b, hb, ex⟩ := ni_of (by omega) zb.1 zb.2
    subst ex
    by_cases z : 0 ≤ y ∧ y ≤ 3
    · obtain ⟨k, hk, ey⟩ := ni_of2 3 (by omega) z.1 z.2
      subst ey
      have main : ∀ n o, 384 ≤ n → ∃ d1 d2 L, GF d d2 ∧ EV (63, 0, [ev_R 0 2, ev_R 0 1], [], 0, 0) (n, lk, d, o) = some (.inl none, (n, lk, d1, o)) ∧ EV (71, 0, [ev_R 32 0, ev_R 0 2], [], 0, 0) (n, lk, d1, o) = some (.inl (some (ev_I L)), (n, lk, d2, o)) ∧
          (d2 9 2 b = Int32.ofNat (ms_wi (d 45 0) (ms_pre (d 45 0) (d 46 0) C B) C R b) ∧ d2 10 2 b = ms_b01 (ms_gg (d 45 0) (ms_pre (d 45 0) (d 46 0) C B) C R B S b) ∧ d2 37 0 b = ms_to (d 45 0) (ms_pre (d 45 0) (d 46 0) C B) C R B S b ∧ d2 38 0 b = ms_en (ms_sv (d 45 0) (ms_pre (d 45 0) (d 46 0) C B) C R B S b)) ∧
          ∀ o', ∃ d3, EV (178, 0, [ev_R 44 0], [], 0, 0) (n, lk, mm_try (ev_u3 d2 44 0 0 0), o') = some (.inl none, (n, lk, d3, o')) ∧ MT (ev_u3 d2 44 0 0 0) d3 ∧
          (mm_back d3 51 0 b = Int32.ofNat (ms_wi (d 45 0) (ms_pre (d 45 0) (d 46 0) C B) C R b) ∧ mm_back d3 52 0 b = ms_b01 (ms_gg (d 45 0) (ms_pre (d 45 0) (d 46 0) C B) C R B S b) ∧ mm_back d3 53 0 b = ms_to (d 45 0) (ms_pre (d 45 0) (d 46 0) C B) C R B S b ∧ mm_back d3 54 0 b = ms_en (ms_sv (d 45 0) (ms_pre (d 45 0) (d 46 0) C B) C R B S b)) := by
        intro n o hn
        obtain ⟨d1, e1, f1, s1⟩ := ec_trial (n := n) (o := o) hl g3 htr
        obtain ⟨d2, e2, f2, s2, -, k2⟩ := ec_tickG (n := n) (o := o) hl (i := 2) (by decide) s1 (TW_FT g2 f1) g1 hS hS4 (by omega)
        have f := FT_t f1 f2
        obtain ⟨q1, q44, q45, q46⟩ := FT2_1 f
        have t45 : mm_try (ev_u3 d2 44 0 0 0) 45 = d 45 := by rw [mm_try_n (by decide), u3n (by decide), q45]
        have t46 : mm_try (ev_u3 d2 44 0 0 0) 46 = d 46 := by rw [mm_try_n (by decide), u3n (by decide), q46]
        obtain ⟨⟨K2, h2⟩, -⟩ := s2
        obtain ⟨w6, w7⟩ := ms_tick_67 (S := S) g1 g3.2 hb
        refine ⟨d1, d2, _, GF_FT f, e1, e2, ⟨by rw [cs_9 h2 (by omega), w6], by rw [cs_10 h2 (by omega), w7], (k2 b hb).1, (k2 b hb).2⟩, fun o' => ?_⟩
        obtain ⟨d3, e3, m3, sm3, k3⟩ := em_plans (n := n) (o := o') hl (d := mm_try (ev_u3 d2 44 0 0 0)) (B := B) (R := R) (C := C) (S := S) (by
          have ok := (GS_OK g1 g3 hS hS4).1
          unfold ms_D at ok ⊢
          rw [t45, t46]
          exact ok)
        rw [t45, t46] at k3
        obtain ⟨y1, y2, y3, y4, y5⟩ := k3 b hb
        exact ⟨d3, e3, MT_same MT_try (ms_same_plans sm3), by rw [mm_back_n (by decide), y2], by rw [mm_back_n (by decide), y3], by rw [mm_back_n (by decide), y5], by rw [mm_back_n (by decide), y4]⟩
      match k, hk, z with
      | 0, _, z =>
        refine OPH_okt h (fun n o hn => ?_)
        obtain ⟨d1, d2, L, f, e1, e2, ⟨c0, c1, c2, c3⟩, fm⟩ := main n o hn
        obtain ⟨d3, e3, mt, r0, r1', r2, r3⟩ := fm o
        refine ⟨Int32.ofNat (ms_wi (d 45 0) (ms_pre (d 45 0) (d 46 0) C B) C R b), d2, mm_back d3, f, GF_t GF_thrown (MT_GF mt), by rw [mm_back_n (by decide), mt.1 44 (by decide) (by decide), u3s], ?_, ?_⟩
        · refine EV_bk (k := 400) ?_
          rw [bk_97_0, ec_reqBank hl hn hB, if_pos zb]
          simp (decide := true) only [ev_bv, ↓reduceIte, hl 27 0 4 rfl (by decide) (by decide), hl 27 0 5 rfl (by decide) (by decide), cond_true]
          rw [e1]
          simp only [hl 27 0 2 rfl (by decide) (by decide), hl 27 0 5 rfl (by decide) (by decide), cond_true]
          rw [e2]
          simp (decide := true) only [ev_bi, ↓reduceIte, hl 27 0 2 rfl (by decide) (by decide), hl 27 0 5 rfl (by decide) (by decide), hl 32 0 5 rfl (by decide) (by decide), hl 32 0 6 rfl (by decide) (by decide), show lk 0 2 6 = true from hl 0 2 6 rfl (by decide) (by decide), show lk 3 2 5 = true from hl 3 2 5 rfl (by decide) (by decide), show lk 3 2 6 = true from hl 3 2 6 rfl (by decide) (by decide), cond_true, ni_in (n := b) (N := 4) (by omega) (by omega), ni_c (n := b) (by omega), c0, c1, c2, c3]
        · refine EV_bk (k := 400) ?_
          rw [bk_202_0, em_noBank hl (by rw [FTk45 f]; exact t0) b4, if_pos zb]
          simp (decide := true) only [ev_bi, ↓reduceIte]
          rw [em_in z]
          simp (decide := true) only [↓reduceIte]
          rw [em_throws0 u3s]
          simp (decide := true) only [↓reduceIte]
          rw [em_try hl]
          simp only [ev_bv]
          rw [e3]
          simp only []
          rw [em_back hl]
          simp (decide := true) only [↓reduceIte, hl 44 0 18 rfl (by decide) (by decide), hl 44 0 19 rfl (by decide) (by decide), hl 44 0 20 rfl (by decide) (by decide), hl 44 0 21 rfl (by decide) (by decide), cond_true, ni_in (n := b) (N := 4) (by omega) (by omega), ni_c (n := b) (by omega), r0, r1', r2, r3]
      | 1, _, z =>
        refine OPH_okt h (fun n o hn => ?_)
        obtain ⟨d1, d2, L, f, e1, e2, ⟨c0, c1, c2, c3⟩, fm⟩ := main n o hn
        obtain ⟨d3, e3, mt, r0, r1', r2, r3⟩ := fm o
        refine ⟨ms_b01 (ms_gg (d 45 0) (ms_pre (d 45 0) (d 46 0) C B) C R B S b), d2, mm_back d3, f, GF_t GF_thrown (MT_GF mt), by rw [mm_back_n (by decide), mt.1 44 (by decide) (by decide), u3s], ?_, ?_⟩
        · refine EV_bk (k := 400) ?_
          rw [bk_97_0, ec_reqBank hl hn hB, if_pos zb]
          simp (decide := true) only [ev_bv, ↓reduceIte, hl 27 0 4 rfl (by decide) (by decide), hl 27 0 5 rfl (by decide) (by decide), cond_true]
          rw [e1]
          simp only [hl 27 0 2 rfl (by decide) (by decide), hl 27 0 5 rfl (by decide) (by decide), cond_true]
          rw [e2]
          simp (decide := true) only [ev_bi, ↓reduceIte, hl 27 0 2 rfl (by decide) (by decide), hl 27 0 5 rfl (by decide) (by decide), hl 32 0 5 rfl (by decide) (by decide), hl 32 0 6 rfl (by decide) (by decide), show lk 0 2 6 = true from hl 0 2 6 rfl (by decide) (by decide), show lk 3 2 5 = true from hl 3 2 5 rfl (by decide) (by decide), show lk 3 2 6 = true from hl 3 2 6 rfl (by decide) (by decide), cond_true, ni_in (n := b) (N := 4) (by omega) (by omega), ni_c (n := b) (by omega), c0, c1, c2, c3]
        · refine EV_bk (k := 400) ?_
          rw [bk_202_0, em_noBank hl (by rw [FTk45 f]; exact t0) b4, if_pos zb]
          simp (decide := true) only [ev_bi, ↓reduceIte]
          rw [em_in z]
          simp (decide := true) only [↓reduceIte]
          rw [em_throws0 u3s]
          simp (decide := true) only [↓reduceIte]
          rw [em_try hl]
          simp only [ev_bv]
          rw [e3]
          simp only []
          rw [em_back hl]
          simp (decide := true) only [↓reduceIte, hl 44 0 18 rfl (by decide) (by decide), hl 44 0 19 rfl (by decide) (by decide), hl 44 0 20 rfl (by decide) (by decide), hl 44 0 21 rfl (by decide) (by decide), cond_true, ni_in (n := b) (N := 4) (by omega) (by omega), ni_c (n := b) (by omega), r0, r1', r2, r3]
          cases ms_gg (d 45 0) (ms_pre (d 45 0) (d 46 0) C B) C R B S b <;> rfl
      | 2, _, z =>
        refine OPH_okt h (fun n o hn => ?_)
        obtain ⟨d1, d2, L, f, e1, e2, ⟨c0, c1, c2, c3⟩, fm⟩ := main n o hn
        obtain ⟨d3, e3, mt, r0, r1', r2, r3⟩ := fm o
        refine ⟨ms_to (d 45 0) (ms_pre (d 45 0) (d 46 0) C B) C R B S b, d2, mm_back d3, f, GF_t GF_thrown (MT_GF mt), by rw [mm_back_n (by decide), mt.1 44 (by decide) (by decide), u3s], ?_, ?_⟩
        · refine EV_bk (k := 400) ?_
          rw [bk_97_0, ec_reqBank hl hn hB, if_pos zb]
          simp (decide := true) only [ev_bv, ↓reduceIte, hl 27 0 4 rfl (by decide) (by decide), hl 27 0 5 rfl (by decide) (by decide), cond_true]
          rw [e1]
          simp only [hl 27 0 2 rfl (by decide) (by decide), hl 27 0 5 rfl (by decide) (by decide), cond_true]
          rw [e2]
          simp (decide := true) only [ev_bi, ↓reduceIte, hl 27 0 2 rfl (by decide) (by decide), hl 27 0 5 rfl (by decide) (by decide), hl 32 0 5 rfl (by decide) (by decide), hl 32 0 6 rfl (by decide) (by decide), show lk 0 2 6 = true from hl 0 2 6 rfl (by decide) (by decide), show lk 3 2 5 = true from hl 3 2 5 rfl (by decide) (by decide), show lk 3 2 6 = true from hl 3 2 6 rfl (by decide) (by decide), cond_true, ni_in (n := b) (N := 4) (by omega) (by omega), ni_c (n := b) (by omega), c0, c1, c2, c3]
        · refine EV_bk (k := 400) ?_
          rw [bk_202_0, em_noBank hl (by rw [FTk45 f]; exact t0) b4, if_pos zb]
          simp (decide := true) only [ev_bi, ↓reduceIte]
          rw [em_in z]
          simp (decide := true) only [↓reduceIte]
          rw [em_throws0 u3s]
          simp (decide := true) only [↓reduceIte]
          rw [em_try hl]
          simp only [ev_bv]
          rw [e3]
          simp only []
          rw [em_back hl]
          simp (decide := true) only [↓reduceIte, hl 44 0 18 rfl (by decide) (by decide), hl 44 0 19 rfl (by decide) (by decide), hl 44 0 20 rfl (by decide) (by decide), hl 44 0 21 rfl (by decide) (by decide), cond_true, ni_in (n := b) (N := 4) (by omega) (by omega), ni_c (n := b) (by omega), r0, r1', r2, r3]
      | 3, _, z =>
        refine OPH_okt h (fun n o hn => ?_)
        obtain ⟨d1, d2, L, f, e1, e2, ⟨c0, c1, c2, c3⟩, fm⟩ := main n o hn
        obtain ⟨d3, e3, mt, r0, r1', r2, r3⟩ := fm o
        refine ⟨ms_en (ms_sv (d 45 0) (ms_pre (d 45 0) (d 46 0) C B) C R B S b), d2, mm_back d3, f, GF_t GF_thrown (MT_GF mt), by rw [mm_back_n (by decide), mt.1 44 (by decide) (by decide), u3s], ?_, ?_⟩
        · refine EV_bk (k := 400) ?_
          rw [bk_97_0, ec_reqBank hl hn hB, if_pos zb]
          simp (decide := true) only [ev_bv, ↓reduceIte, hl 27 0 4 rfl (by decide) (by decide), hl 27 0 5 rfl (by decide) (by decide), cond_true]
          rw [e1]
          simp only [hl 27 0 2 rfl (by decide) (by decide), hl 27 0 5 rfl (by decide) (by decide), cond_true]
          rw [e2]
          simp (decide := true) only [ev_bi, ↓reduceIte, hl 27 0 2 rfl (by decide) (by decide), hl 27 0 5 rfl (by decide) (by decide), hl 32 0 5 rfl (by decide) (by decide), hl 32 0 6 rfl (by decide) (by decide), show lk 0 2 6 = true from hl 0 2 6 rfl (by decide) (by decide), show lk 3 2 5 = true from hl 3 2 5 rfl (by decide) (by decide), show lk 3 2 6 = true from hl 3 2 6 rfl (by decide) (by decide), cond_true, ni_in (n := b) (N := 4) (by omega) (by omega), ni_c (n := b) (by omega), c0, c1, c2, c3]
        · refine EV_bk (k := 400) ?_
          rw [bk_202_0, em_noBank hl (by rw [FTk45 f]; exact t0) b4, if_pos zb]
          simp (decide := true) only [ev_bi, ↓reduceIte]
          rw [em_in z]
          simp (decide := true) only [↓reduceIte]
          rw [em_throws0 u3s]
          simp (decide := true) only [↓reduceIte]
          rw [em_try hl]
          simp only [ev_bv]
          rw [e3]
          simp only []
          rw [em_back hl]
          simp (decide := true) only [↓reduceIte, hl 44 0 18 rfl (by decide) (by decide), hl 44 0 19 rfl (by decide) (by decide), hl 44 0 20 rfl (by decide) (by decide), hl 44 0 21 rfl (by decide) (by decide), cond_true, ni_in (n := b) (N := 4) (by omega) (by omega), ni_c (n := b) (by omega), r0, r1', r2, r3]
    · refine OPH_no (E := 0) (v := 0) h (GF_thrown (v := 2)) (by decide) (by decide) u3s (fun n o hn => ?_) (fun n o => ?_)
      · refine EV_bk (k := 400) ?_
        rw [bk_97_0, ec_reqBank hl hn hB, if_pos zb]
        simp only [ev_bv]
        rw [Nat.ble_eq.mpr hn, cond_true]
        by_cases y1 : y < 0
        · rw [if_pos y1]
        · rw [if_neg y1, if_neg (fun v => z ⟨Int32.not_lt.mp y1, v⟩)]
      · refine EV_bk (k := 400) ?_
        rw [bk_202_0, em_noBank hl t0 b4, if_pos zb]
        simp (decide := true) only [ev_bi, ↓reduceIte]
        rw [em_out z]
        simp (decide := true) only [↓reduceIte]
        rw [em_throws1 u3s (by decide), u3u]
        simp (decide := true) only [↓reduceIte]
  · refine OPH_no (E := 1) (v := 0) h (GF_thrown (v := 1)) (by decide) (by decide) u3s (fun n o hn => ?_) (fun n o => ?_)
    · refine EV_bk (k := 400) ?_
      rw [bk_97_0, ec_reqBank hl hn hB, if_neg zb]
      rfl
    · refine EV_bk (k := 400) ?_
      rw [bk_202_0, em_noBank hl t0 b4, if_neg zb]
      simp (decide := true) only [ev_bi, ↓reduceIte]
/-- the reference looks for the end of a wait -/
theorem em_waitLoop (hl : LK lk) {d0 : Nat → Nat → Nat → Int32} {B R C S q : Nat} (hq : q < C) : ∀ j p (d : Nat → Nat → Nat → Int32), p + j = 300 → ms_OK d B R C S → MT d0 d →
    ∃ d', EV (207, 16, [ev_R 44 0, ev_I (Int32.ofNat q), ev_I (Int32.ofNat p)], [], 0, 0) (n, lk, d, o) = some (.inl (some (ev_I (ms_wo (d 45 0) C R B S q j (d 46 0)))), (n, lk, mm_back d', o)) ∧ MT d0 d' := by
  intro j
  induction j with
  | zero =>
    intro p d hp ok mt
    have h40 : C ≤ 40 := ok.1.2.2.2.2.2.2.2.2.2.1
    refine ⟨d, ?_, mt⟩
    refine EV_bk (k := 400) ?_
    rw [bk_207_16, if_neg (fun z => by have := (ni_lt (b := 300) (by omega) (by omega)).mp z; omega), em_ofRequest hl (w := 3) (x := 3) rfl (by omega)]
    simp only [ev_bi]
    unfold ms_wo
    by_cases z : d 46 0 (375 + 6 * q + 3) = 2
    · rw [if_pos z, if_pos z, em_ofRequest hl (w := 4) (x := 4) rfl (by omega)]
      simp only []
      rw [em_ofRequest hl (w := 2) (x := 2) rfl (by omega)]
      simp only []
      rw [em_back hl]
      rfl
    · rw [if_neg z, if_neg z, em_back hl]
      rfl
  | succ j ih =>
    intro p d hp ok mt
    have h40 : C ≤ 40 := ok.1.2.2.2.2.2.2.2.2.2.1
    have hlt : Int32.ofNat p < 300 := (ni_lt (b := 300) (by omega) (by omega)).mpr (by omega)
    have hst : ms_wo (d 45 0) C R B S q (j + 1) (d 46 0) = if d 46 0 (375 + 6 * q + 3) = 2 then d 46 0 (375 + 6 * q + 4) - d 46 0 (375 + 6 * q + 2) else ms_wo (d 45 0) C R B S q j (ms_tick (d 45 0) (d 46 0) C R B S) := rfl
    by_cases z : d 46 0 (375 + 6 * q + 3) = 2
    · rw [if_pos z] at hst
      refine ⟨d, ?_, mt⟩
      refine EV_bk (k := 400) ?_
      rw [bk_207_16, if_pos hlt, em_ofRequest hl (w := 3) (x := 3) rfl (by omega)]
      simp only [ev_bi]
      rw [if_pos z, em_ofRequest hl (w := 3) (x := 3) rfl (by omega)]
      simp only []
      rw [if_pos z, em_ofRequest hl (w := 4) (x := 4) rfl (by omega)]
      simp only []
      rw [em_ofRequest hl (w := 2) (x := 2) rfl (by omega)]
      simp only []
      rw [em_back hl, hst]
      rfl
    · rw [if_neg z] at hst
      obtain ⟨d1, e1, m1, f1⟩ := em_passes (n := n) (o := o) hl ok.1 ok.2
      have sm1 : ms_same d d1 := f1
      have t45 : d1 45 = d 45 := sm1 45 (by decide) (by decide) (by decide) (by decide) (by decide) (by decide) (by decide)
      obtain ⟨d', e2, mt2⟩ := ih (p + 1) d1 (by omega) (ok.tick m1 sm1) (MT_same mt sm1)
      refine ⟨d', ?_, mt2⟩
      refine EV_bk (k := 400) ?_
      rw [bk_207_16, if_pos hlt, em_ofRequest hl (w := 3) (x := 3) rfl (by omega)]
      simp only [ev_bi]
      rw [if_neg z, e1]
      simp only [ev_bv, ni_1]
      rw [e2, hst, m1, t45]
theorem op_waitOf (hl : LK lk) (h : GI d) {x : Int32} : OPH (101, 0, [ev_R 27 0, ev_I x], [], 0, 0) (207, 0, [ev_R 44 0, ev_I x], [], 0, 0) kf_C lk d := by
  obtain ⟨B, R, T, C, τ, S, g1, g2, g3, hτ, hS, hS4, htr⟩ := GI_trial h
  obtain ⟨K, hs⟩ := g3.1
  have h40 := cs_C hs
  have hC := (cs_ct hs).trans (cs_w9 hs)
  by_cases zb : 0 ≤ x ∧ x < Int32.ofNat C
  · obtain ⟨q, hq, ex⟩ := ni_of (by omega) zb.1 zb.2
    subst ex
    refine OPH_okt h (fun n o hn => ?_)
    obtain ⟨d1, e1, f1, s1⟩ := ec_trial (n := n) (o := o) hl g3 htr
    obtain ⟨d2, e2, f2⟩ := ec_waitLoop (n := n) (o := o) hl s1 (TW_FT g2 f1) g1 hS hS4 (by omega) hq
    have f := FT_t f1 f2
    obtain ⟨q1, q44, q45, q46⟩ := FT2_1 f
    have t45 : mm_try (ev_u3 d2 44 0 0 0) 45 = d 45 := by rw [mm_try_n (by decide), u3n (by decide), q45]
    have t46 : mm_try (ev_u3 d2 44 0 0 0) 46 = d 46 := by rw [mm_try_n (by decide), u3n (by decide), q46]
    obtain ⟨d3, e3, mt⟩ := em_waitLoop (n := n) (o := o) hl (d0 := ev_u3 d2 44 0 0 0) hq 300 0 (mm_try (ev_u3 d2 44 0 0 0)) (by omega) (ms_OK_c (GS_OK g1 g3 hS hS4) (by rw [t45]) (by rw [t46])) MT_try
    rw [t45, t46] at e3
    refine ⟨ms_wo (d 45 0) C R B S q 300 (d 46 0), d2, mm_back d3, GF_FT f, GF_t GF_thrown (MT_GF mt), by rw [mm_back_n (by decide), mt.1 44 (by decide) (by decide), u3s], ?_, ?_⟩
    · refine EV_bk (k := 400) ?_
      rw [bk_101_0, ec_reqRequest hl hn hC, if_pos zb]
      simp only [ev_bv, hl 27 0 4 rfl (by decide) (by decide), hl 27 0 5 rfl (by decide) (by decide), cond_true]
      rw [e1]
      exact e2
    · refine EV_bk (k := 400) ?_
      rw [bk_207_0, em_noRequest hl (C := C) (by rw [q46]; exact cs_w9 hs) h40, if_pos zb]
      simp only [ev_bi, ↓reduceIte]
      rw [em_try hl]
      exact e3
  · refine OPH_no (E := 1) (v := 0) h (GF_thrown (v := 1)) (by decide) (by decide) u3s (fun n o hn => ?_) (fun n o => ?_)
    · refine EV_bk (k := 400) ?_
      rw [bk_101_0, ec_reqRequest hl hn hC, if_neg zb]
      rfl
    · refine EV_bk (k := 400) ?_
      rw [bk_207_0, em_noRequest hl (cs_w9 hs) h40, if_neg zb]
      simp (decide := true) only [ev_bi, ↓reduceIte]
end EC27
