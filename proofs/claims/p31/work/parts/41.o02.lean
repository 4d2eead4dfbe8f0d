/-! THE LAW AND THE PROGRAM, 2: what would be -/
theorem CR_MT {d d' : Nat → Nat → Nat → Int32} {v : Int32} (h : MT (ev_u3 d 44 0 0 v) d') : CR d (mm_back d') := fun r hr => by
  rw [mm_back_n (by omega), h.1 r (by omega) (by omega), u3n (by omega)]
section OL2
variable {n : Nat} {lk : Nat → Nat → Nat → Bool} {d : Nat → Nat → Nat → Int32} {o : ev_W} {B R C T τ S : Nat}
theorem GB_trial (hG : GB d B R C T τ) : TC (d 45 0) B R ∧ TW d (d 45 0) T ∧ GS d 1 (d 46 0) B R C T τ ∧ τ ≤ 2000 ∧ (d 0 1 1 = 0 ∨ d 0 1 1 = 1) := by
  obtain ⟨h, g1, g2, g3, hτ, g4⟩ := hG
  refine ⟨g1, ⟨g2, g3.1⟩, g4, hτ, ?_⟩
  obtain ⟨⟨K, hs⟩, hI⟩ := g4
  rw [cs_tr hs]
  exact hI.2.2.2.1.2.2.2.1
theorem ol_weakest (hl : LK lk) (hG : GB d B R C T τ) : OPL (96, 0, [ev_R 27 0], [], 0, 0) (201, 0, [ev_R 44 0], [], 0, 0) lk d (ms_wb (d 45 0) (d 46 0) R 1000000000 B).1 := by
  obtain ⟨h, g1, g2, -, hτ, ⟨K, hs⟩, hI⟩ := hG
  obtain ⟨⟨t0, t1, b1, b4, r1, r16⟩, -⟩ := id g1
  have hB := g2.1.trans t0
  have hR := g2.2.1.trans t1
  have hwk : ms_weak (d 45 0) (d 46 0) 0 R < 16 := by
    rcases ms_weak_le (d 45 0) (d 46 0) 0 R with z | z <;> omega
  have hrm := ms_rem_rg (b := 0) (r := ms_weak (d 45 0) (d 46 0) 0 R) g1 (hI.2.2.2.2.2.1 (16 * 0 + ms_weak (d 45 0) (d 46 0) 0 R) (by omega)) (by omega)
  have eq : ms_wb (d 45 0) (d 46 0) R 1000000000 B = ms_wb (d 45 0) (d 46 0) R 1000000 B := by
    have e := ms_wb_eq (t := d 45 0) (w := d 46 0) (l := 1000000000) (l' := 1000000) r1 (by
      rw [i32_lt, show (1000000000 : Int32).toInt = 1000000000 from by decide]
      have := hrm.2
      omega) (by
      rw [i32_lt, show (1000000 : Int32).toInt = 1000000 from by decide]
      have := hrm.2
      omega) (B - 1)
    rwa [show B - 1 + 1 = B by omega] at e
  refine OPL_ok (v := (ms_wb (d 45 0) (d 46 0) R 1000000000 B).1) (GF_r d) (GF_thrown (v := 0)) CR_u3 (fun n o _ => ?_) (fun n o => ?_)
  · have banks : ∀ j b, b + j = B → EV (96, 7, [ev_R 27 0, ev_I (ms_wb (d 45 0) (d 46 0) R 1000000000 b).1, ev_I (ms_wb (d 45 0) (d 46 0) R 1000000000 b).2, ev_I (Int32.ofNat b)], [], 0, 0) (n, lk, d, o) = some (.inl (some (ev_I (ms_wb (d 45 0) (d 46 0) R 1000000000 B).1)), (n, lk, d, o)) := by
      intro j
      induction j with
      | zero =>
        intro b hb
        refine EV_bk (k := 400) ?_
        rw [bk_96_7, hl 27 0 3 rfl (by decide) (by decide), cond_true, hB, if_neg (fun z => by have := (ni_lt (by omega) (by omega)).mp z; omega), show b = B by omega]
      | succ j ih =>
        intro b hb
        have hlt : Int32.ofNat b < Int32.ofNat B := (ni_lt (by omega) (by omega)).mpr (by omega)
        have e := ih (b + 1) (by omega)
        have e' : ms_wb (d 45 0) (d 46 0) R 1000000000 (b + 1) = ms_up (d 45 0) (d 46 0) b (ms_wb (d 45 0) (d 46 0) R 1000000000 b) R := rfl
        rw [e'] at e
        generalize ms_wb (d 45 0) (d 46 0) R 1000000000 b = s at e
        have rows : ∀ j r, r + j = R → EV (96, 21, [ev_R 27 0, ev_I (ms_up (d 45 0) (d 46 0) b s r).1, ev_I (ms_up (d 45 0) (d 46 0) b s r).2, ev_I (Int32.ofNat b), ev_I (Int32.ofNat r)], [], 0, 0) (n, lk, d, o) = some (.inl (some (ev_I (ms_wb (d 45 0) (d 46 0) R 1000000000 B).1)), (n, lk, d, o)) := by
          intro j
          induction j with
          | zero =>
            intro r hr
            have er : r = R := by omega
            subst er
            refine EV_bk (k := 400) ?_
            rw [bk_96_21, hl 27 0 3 rfl (by decide) (by decide), cond_true, hR, if_neg (fun z => by have := (ni_lt (by omega) (by omega)).mp z; omega), ni_1]
            exact e
          | succ j ih2 =>
            intro r hr
            have hlt2 : Int32.ofNat r < Int32.ofNat R := (ni_lt (by omega) (by omega)).mpr (by omega)
            have e2 := ih2 (r + 1) (by omega)
            rw [← ms_up_S] at e2
            refine EV_bk (k := 400) ?_
            rw [bk_96_21, hl 27 0 3 rfl (by decide) (by decide), cond_true, hR, if_pos hlt2, hl 27 0 4 rfl (by decide) (by decide), cond_true, cond_true, ec_boundOf (d := d) hl (i := 1) (l := 1) (by decide) (by decide) (b := b) (r := r) (by omega) (by omega), mc_ms_bound g2 hs (by omega) (by omega)]
            simp only [ev_bi, hl 27 0 4 rfl (by decide) (by decide), show lk 0 1 7 = true from hl 0 1 7 rfl (by decide) (by decide), show lk 11 1 0 = true from hl 11 1 0 rfl (by decide) (by decide), cond_true]
            rw [ec_cellOf]
            simp only [ni_in (n := 16 * b + r) (N := 64) (by omega) (by omega), ni_c (n := 16 * b + r) (by omega), cond_true, cs_12 hs (c := 16 * b + r) (by omega), ni_1]
            have er : ms_bound (d 45 0) (d 46 0) b r - d 46 0 (55 + 5 * (16 * b + r) + 0) = ms_rem (d 45 0) (d 46 0) b r := rfl
            rw [er]
            by_cases c : ms_rem (d 45 0) (d 46 0) b r < (ms_up (d 45 0) (d 46 0) b s r).2
            · rw [if_pos c] at e2
              rw [if_pos c]
              exact e2
            · rw [if_neg c] at e2
              rw [if_neg c]
              exact e2
        refine EV_bk (k := 400) ?_
        rw [bk_96_7, hl 27 0 3 rfl (by decide) (by decide), cond_true, hB, if_pos hlt]
        exact rows R 0 (by omega)
    refine EV_bk (k := 400) ?_
    rw [bk_96_0]
    exact banks B 0 (by omega)
  · rw [eq]
    have t45 : ev_u3 d 44 0 0 0 45 = d 45 := u3n (by decide)
    have t46 : ev_u3 d 44 0 0 0 46 = d 46 := u3n (by decide)
    have banks : ∀ j b, b + j = B → EV (201, 13, [ev_R 44 0, ev_I (ms_wb (d 45 0) (d 46 0) R 1000000 b).1, ev_I (ms_wb (d 45 0) (d 46 0) R 1000000 b).2, ev_I (Int32.ofNat b)], [], 0, 0) (n, lk, ev_u3 d 44 0 0 0, o) = some (.inl (some (ev_I (ms_wb (d 45 0) (d 46 0) R 1000000 B).1)), (n, lk, ev_u3 d 44 0 0 0, o)) := by
      intro j
      induction j with
      | zero =>
        intro b hb
        refine EV_bk (k := 400) ?_
        rw [bk_201_13, hl 44 0 1 rfl (by decide) (by decide), cond_true, t45, t0, if_neg (fun z => by have := (ni_lt (by omega) (by omega)).mp z; omega), show b = B by omega]
      | succ j ih =>
        intro b hb
        have hlt : Int32.ofNat b < Int32.ofNat B := (ni_lt (by omega) (by omega)).mpr (by omega)
        have hw : ms_weak (d 45 0) (d 46 0) b R < 16 := by
          rcases ms_weak_le (d 45 0) (d 46 0) b R with z | z <;> omega
        have e := ih (b + 1) (by omega)
        have e' : ms_wb (d 45 0) (d 46 0) R 1000000 (b + 1) = if ms_rem (d 45 0) (d 46 0) b (ms_weak (d 45 0) (d 46 0) b R) < (ms_wb (d 45 0) (d 46 0) R 1000000 b).2 then (100 * Int32.ofNat b + Int32.ofNat (ms_weak (d 45 0) (d 46 0) b R), ms_rem (d 45 0) (d 46 0) b (ms_weak (d 45 0) (d 46 0) b R)) else ms_wb (d 45 0) (d 46 0) R 1000000 b := if_neg (by omega)
        rw [e'] at e
        have ew := em_weakestOf (n := n) (o := o) (d := ev_u3 d 44 0 0 0) hl (b := b) (by omega) (R := R) (by rw [t45, t1]) r1 r16
        have er := em_remains (n := n) (o := o) (d := ev_u3 d 44 0 0 0) hl (b := b) (r := ms_weak (d 45 0) (d 46 0) b R) (by omega) hw
        rw [t45, t46] at ew er
        refine EV_bk (k := 400) ?_
        rw [bk_201_13, hl 44 0 1 rfl (by decide) (by decide), cond_true, t45, t0, if_pos hlt, ew]
        simp only [ev_bi]
        rw [er]
        simp only [ni_1]
        by_cases c : ms_rem (d 45 0) (d 46 0) b (ms_weak (d 45 0) (d 46 0) b R) < (ms_wb (d 45 0) (d 46 0) R 1000000 b).2
        · rw [if_pos c] at e
          rw [if_pos c, er]
          exact e
        · rw [if_neg c] at e
          rw [if_neg c]
          exact e
    refine EV_bk (k := 400) ?_
    rw [bk_201_0]
    exact banks B 0 (by omega)
theorem ol_meanWait (hl : LK lk) (hG : GB d B R C T τ) : ∃ d2, GF d d2 ∧ CR d d2 ∧ (∀ n o, EV (103, 0, [ev_R 27 0], [], 0, 0) (n, lk, d, o) = some (.inl (some (ev_D (if d 46 0 16 = 0 then FP.dconst0 else FP.ddiv (FP.i2d (d 46 0 17)) (FP.i2d (d 46 0 16))))), (n, lk, d, o))) ∧
    ∀ n o, EV (209, 0, [ev_R 44 0], [], 0, 0) (n, lk, d, o) = some (.inl (some (ev_D (if d 46 0 16 = 0 then FP.dconst0 else FP.ddiv (FP.i2d (d 46 0 17)) (FP.i2d (d 46 0 16))))), (n, lk, d2, o)) := by
  obtain ⟨h, g1, g2, -, hτ, ⟨K, hs⟩, hI⟩ := hG
  have h16 := hI.2.2.2.2.2.2.2
  have q5 : d 2 1 5 = d 46 0 16 := cs_2 hs (k := 5) (by decide)
  have z16 : d 46 0 16 ≤ 0 ↔ d 46 0 16 = 0 := by
    rw [i32_le, ← Int32.toInt_inj, show (0 : Int32).toInt = 0 from by decide]
    have := h16.1
    omega
  refine ⟨ev_u3 d 44 0 0 0, GF_thrown, CR_u3, fun n o => ?_, fun n o => ?_⟩
  · refine EV_bk (k := 400) ?_
    rw [bk_103_0, hl 27 0 4 rfl (by decide) (by decide), cond_true, show lk 0 1 5 = true from hl 0 1 5 rfl (by decide) (by decide), cond_true, q5]
    by_cases z : d 46 0 16 = 0
    · rw [if_pos (z16.mpr z), if_pos z]
    · rw [if_neg (fun v => z (z16.mp v)), if_neg z, cond_true, cs_wt hs, if_pos (fp_ok z)]
  · refine EV_bk (k := 400) ?_
    rw [bk_209_0, hl 44 0 2 rfl (by decide) (by decide), cond_true]
    by_cases z : d 46 0 16 = 0
    · rw [if_pos z, if_pos z]
    · rw [if_neg z, if_neg z, cond_true, if_pos (fp_ok z)]
theorem ol_lossesAhead (hl : LK lk) (hG : GB d B R C T τ) (hS : d 46 0 0 = Int32.ofNat S) (hS4 : S ≤ 4) {k : Nat} (hk1 : 1 ≤ k) (hk : k ≤ 300) : OPL (99, 0, [ev_R 27 0, ev_I (Int32.ofNat k)], [], 0, 0) (205, 0, [ev_R 44 0, ev_I (Int32.ofNat k)], [], 0, 0) lk d (ms_ticks (d 45 0) (d 46 0) C R B S k 14 - d 46 0 14) := by
  obtain ⟨g1, g2, g3, hτ, htr⟩ := GB_trial hG
  have z : 1 ≤ Int32.ofNat k ∧ Int32.ofNat k ≤ 300 := ⟨(ni_le (a := 1) (by omega) (by omega)).mpr hk1, (ni_le (b := 300) (by omega) (by omega)).mpr hk⟩
  intro n o hn
  obtain ⟨d1, e1, f1, s1⟩ := ec_trial (n := n) (o := o) hl g3 htr
  obtain ⟨d2, e2, f2, -⟩ := ec_run (n := n) (o := o) hl (i := 2) (by decide) (k := k) s1 (TW_FT g2 f1) g1 hS hS4 (by omega)
  have f := FT_t f1 f2
  obtain ⟨q1, q44, q45, q46⟩ := FT2_1 f
  have ok := GS_OK g1 g3 hS hS4
  obtain ⟨d3, e3, m3, sm3, -⟩ := em_lossesIn (n := n) (o := o) hl (d := mm_try (ev_u3 d2 44 0 0 0)) (k := k) (ms_OK_c ok (by rw [mm_try_n (by decide), u3n (by decide), q45]) (by rw [mm_try_n (by decide), u3n (by decide), q46])) (by omega)
  have t45 : mm_try (ev_u3 d2 44 0 0 0) 45 = d 45 := by rw [mm_try_n (by decide), u3n (by decide), q45]
  have t46 : mm_try (ev_u3 d2 44 0 0 0) 46 = d 46 := by rw [mm_try_n (by decide), u3n (by decide), q46]
  rw [t45, t46] at m3
  rw [m3, t46] at e3
  have mt := MT_same MT_try sm3
  refine ⟨d2, mm_back d3, GF_t (GF_FT f) (GF_t GF_thrown (MT_GF mt)), CR_MT mt, ?_, ?_⟩
  · refine EV_bk (k := 400) ?_
    rw [bk_99_0, ec_reqTicks hn, if_pos z]
    simp only [ev_bv, hl 27 0 4 rfl (by decide) (by decide), hl 27 0 5 rfl (by decide) (by decide), cond_true]
    rw [e1]
    simp only [hl 27 0 2 rfl (by decide) (by decide), hl 27 0 5 rfl (by decide) (by decide), cond_true]
    rw [e2]
    rfl
  · refine EV_bk (k := 400) ?_
    rw [bk_205_0, em_noTicks u3s, if_pos z]
    simp only [ev_bi, ↓reduceIte]
    rw [em_try hl]
    simp only [ev_bv]
    rw [e3]
    simp only []
    rw [em_back hl]
theorem ol_nextLoss (hl : LK lk) (hG : GB d B R C T τ) (hS : d 46 0 0 = Int32.ofNat S) (hS4 : S ≤ 4) : OPL (98, 0, [ev_R 27 0], [], 0, 0) (203, 0, [ev_R 44 0], [], 0, 0) lk d (ms_tl (d 45 0) C R B S 300 (d 46 0)) := by
  obtain ⟨g1, g2, g3, hτ, htr⟩ := GB_trial hG
  intro n o hn
  obtain ⟨d1, e1, f1, s1⟩ := ec_trial (n := n) (o := o) hl g3 htr
  obtain ⟨d2, e2, f2⟩ := ec_lossTime (n := n) (o := o) hl (k := 300) s1 (TW_FT g2 f1) g1 hS hS4 (by omega)
  have f := FT_t f1 f2
  obtain ⟨q1, q44, q45, q46⟩ := FT2_1 f
  have ok := GS_OK g1 g3 hS hS4
  have t45 : mm_try (ev_u3 d2 44 0 0 0) 45 = d 45 := by rw [mm_try_n (by decide), u3n (by decide), q45]
  have t46 : mm_try (ev_u3 d2 44 0 0 0) 46 = d 46 := by rw [mm_try_n (by decide), u3n (by decide), q46]
  obtain ⟨d3, e3, mt⟩ := em_lossLoop (n := n) (o := o) hl (d0 := ev_u3 d2 44 0 0 0) (T := T) 300 0 τ (mm_try (ev_u3 d2 44 0 0 0)) (by omega) (ms_OK_c ok (by rw [t45]) (by rw [t46])) MT_try (by rw [t45]; exact g1) (by rw [t46]; exact g3.2) (by omega)
  rw [t45, t46] at e3
  refine ⟨d2, mm_back d3, GF_t (GF_FT f) (GF_t GF_thrown (MT_GF mt)), CR_MT mt, ?_, ?_⟩
  · refine EV_bk (k := 400) ?_
    rw [bk_98_0, hl 27 0 5 rfl (by decide) (by decide), cond_true, hl 27 0 4 rfl (by decide) (by decide), cond_true, e1]
    have e2' : EV (122, 0, [ev_R 27 0, ev_I 300], [], 0, 0) (n, lk, d1, o) = _ := e2
    simp only [ev_bv]
    rw [e2']
    rfl
  · refine EV_bk (k := 400) ?_
    rw [bk_203_0, em_try hl]
    simp only [ev_bv]
    exact e3
theorem ol_waitOf (hl : LK lk) (hG : GB d B R C T τ) (hS : d 46 0 0 = Int32.ofNat S) (hS4 : S ≤ 4) {q : Nat} (hq : q < C) : OPL (101, 0, [ev_R 27 0, ev_I (Int32.ofNat q)], [], 0, 0) (207, 0, [ev_R 44 0, ev_I (Int32.ofNat q)], [], 0, 0) lk d (ms_wo (d 45 0) C R B S q 300 (d 46 0)) := by
  obtain ⟨g1, g2, g3, hτ, htr⟩ := GB_trial hG
  obtain ⟨K, hs⟩ := g3.1
  have h40 := cs_C hs
  have hC := (cs_ct hs).trans (cs_w9 hs)
  have zb : 0 ≤ Int32.ofNat q ∧ Int32.ofNat q < Int32.ofNat C := ⟨ni_lo (by omega), (ni_lt (by omega) (by omega)).mpr hq⟩
  intro n o hn
  obtain ⟨d1, e1, f1, s1⟩ := ec_trial (n := n) (o := o) hl g3 htr
  obtain ⟨d2, e2, f2⟩ := ec_waitLoop (n := n) (o := o) hl s1 (TW_FT g2 f1) g1 hS hS4 (by omega) hq
  have f := FT_t f1 f2
  obtain ⟨q1, q44, q45, q46⟩ := FT2_1 f
  have t45 : mm_try (ev_u3 d2 44 0 0 0) 45 = d 45 := by rw [mm_try_n (by decide), u3n (by decide), q45]
  have t46 : mm_try (ev_u3 d2 44 0 0 0) 46 = d 46 := by rw [mm_try_n (by decide), u3n (by decide), q46]
  obtain ⟨d3, e3, mt⟩ := em_waitLoop (n := n) (o := o) hl (d0 := ev_u3 d2 44 0 0 0) hq 300 0 (mm_try (ev_u3 d2 44 0 0 0)) (by omega) (ms_OK_c (GS_OK g1 g3 hS hS4) (by rw [t45]) (by rw [t46])) MT_try
  rw [t45, t46] at e3
  refine ⟨d2, mm_back d3, GF_t (GF_FT f) (GF_t GF_thrown (MT_GF mt)), CR_MT mt, ?_, ?_⟩
  · refine EV_bk (k := 400) ?_
    rw [bk_101_0, ec_reqRequest hl hn hC, if_pos zb]
    simp only [ev_bv, hl 27 0 4 rfl (by decide) (by decide), hl 27 0 5 rfl (by decide) (by decide), cond_true]
    rw [e1]
    exact e2
  · refine EV_bk (k := 400) ?_
    rw [bk_207_0, em_noRequest hl (C := C) (by rw [q46]; exact cs_w9 hs) h40, if_pos zb]
    simp only [ev_bi, ↓reduceIte]
    rw [em_try hl]
    exact e3
theorem ol_gain (hl : LK lk) (hG : GB d B R C T τ) (hS : d 46 0 0 = Int32.ofNat S) (hS4 : S ≤ 4) {k : Nat} (hk1 : 1 ≤ k) (hk : k ≤ 300) : OPL (102, 0, [ev_R 27 0, ev_I (Int32.ofNat k)], [], 0, 0) (208, 0, [ev_R 44 0, ev_I (Int32.ofNat k)], [], 0, 0) lk d (ms_ticks (d 45 0) (ev_u1 (d 46 0) 7 0) C R B S k 14 - d 46 0 14 - (ms_ticks (d 45 0) (ev_u1 (d 46 0) 7 1) C R B S k 14 - d 46 0 14)) := by
  obtain ⟨g1, g2, g3, hτ, htr⟩ := GB_trial hG
  have z : 1 ≤ Int32.ofNat k ∧ Int32.ofNat k ≤ 300 := ⟨(ni_le (a := 1) (by omega) (by omega)).mpr hk1, (ni_le (b := 300) (by omega) (by omega)).mpr hk⟩
  intro n o hn
  obtain ⟨d1, e1, f1, dx, sx, wx⟩ := ec_lossesWith (n := n) (o := o) hl (v := 0) (k := k) (.inl rfl) g1 g2 g3 (by omega) hS hS4 htr
  obtain ⟨q1, q44, q45, q46⟩ := FT2_1 f1
  obtain ⟨d2, e2, f2, dy, sy, wy⟩ := ec_lossesWith (n := n) (o := o) (d := d1) hl (v := 1) (k := k) (.inr rfl) g1 (TW_FT g2 f1) (GS_d g3 q1) (by omega) hS hS4 (by rw [q1 0 (by decide)]; exact htr)
  have f := FT_t f1 f2
  obtain ⟨p1, p44, p45, p46⟩ := FT2_1 f
  have ok := GS_OK g1 g3 hS hS4
  have t45 : mm_try (ev_u3 d2 44 0 0 0) 45 = d 45 := by rw [mm_try_n (by decide), u3n (by decide), p45]
  have t46 : mm_try (ev_u3 d2 44 0 0 0) 46 = d 46 := by rw [mm_try_n (by decide), u3n (by decide), p46]
  have okm : ∀ (dd : Nat → Nat → Nat → Int32) (v : Int32), dd 45 0 = d 45 0 → (∀ j, j < 615 → dd 46 0 j = ev_u1 (d 46 0) 7 v j) → ms_OK dd B R C S := fun dd v h45 h46 => by
    obtain ⟨⟨x1, x2, x3, x4, x5, x6⟩, y⟩ := ok
    refine ⟨⟨by rw [h45]; exact x1, by rw [h45]; exact x2, by rw [h45]; exact x3, by rw [h46 9 (by omega), u1n (by omega)]; exact x4, by rw [h46 0 (by omega), u1n (by omega)]; exact x5, x6⟩, fun q hq => ?_⟩
    obtain ⟨r, hr, e⟩ := y q hq
    have h40 : C ≤ 40 := x6.2.2.2.2.1
    exact ⟨r, hr, by rw [h46 _ (by omega), u1n (by omega), e]⟩
  -- without
  obtain ⟨d3, e3, m3, sm3, -⟩ := em_lossesIn (n := n) (o := o) hl (d := ev_u3 (mm_try (ev_u3 d2 44 0 0 0)) 46 0 7 0) (k := k)
    (okm _ 0 (by rw [u3n (by decide), t45]) (fun j hj => by rw [u3r, t46])) (by omega)
  have c45 : ev_u3 (mm_try (ev_u3 d2 44 0 0 0)) 46 0 7 0 45 = d 45 := by rw [u3n (by decide), t45]
  have c46 : ev_u3 (mm_try (ev_u3 d2 44 0 0 0)) 46 0 7 0 46 0 = ev_u1 (d 46 0) 7 0 := by rw [u3r, t46]
  rw [m3, c45, c46, u1n (by decide)] at e3
  have mt3 : MT (ev_u3 d2 44 0 0 0) d3 := MT_same (MT_46 MT_try) sm3
  have b3 := MT_b46 mt3
  have k45 : d3 45 0 = d 45 0 := by rw [mt3.1 45 (by decide) (by decide), u3n (by decide), p45]
  -- with
  have w46 : ∀ j, j < 615 → ev_u3 (mm_back d3) 46 0 7 1 46 0 j = ev_u1 (d 46 0) 7 1 j := fun j hj => by
    rw [u3r]
    by_cases e : j = 7
    · rw [e, u1s, u1s]
    · rw [u1n e, u1n e, b3 j hj, u3n (by decide), p46]
  obtain ⟨d4, e4, m4, sm4, -⟩ := em_lossesIn (n := n) (o := o) hl (d := ev_u3 (mm_back d3) 46 0 7 1) (k := k)
    (okm _ 1 (by rw [u3n (by decide), mm_back_n (by decide), k45]) w46) (by omega)
  have eqv := ms_ticks_c hl (k := k) sy wy g1 (S := S) (by rw [u1n (by decide), hS]) hS4 (by omega) w46
  have c45' : ev_u3 (mm_back d3) 46 0 7 1 45 0 = d 45 0 := by rw [u3n (by decide), mm_back_n (by decide), k45]
  rw [m4, c45', eqv, u1n (by decide)] at e4
  have mt4 : MT (ev_u3 d2 44 0 0 0) d4 := MT_same (MT_46 (MT_back mt3)) sm4
  refine ⟨d2, mm_back d4, GF_t (GF_FT f) (GF_t GF_thrown (MT_GF mt4)), CR_MT mt4, ?_, ?_⟩
  · refine EV_bk (k := 400) ?_
    rw [bk_102_0, ec_reqTicks hn, if_pos z]
    simp only [ev_bv]
    rw [e1]
    simp only [ev_bi]
    rw [e2]
  · refine EV_bk (k := 400) ?_
    rw [bk_208_0, em_noTicks u3s, if_pos z]
    simp only [ev_bi, ↓reduceIte]
    rw [em_try hl]
    simp only [ev_bv, hl 44 0 2 rfl (by decide) (by decide), cond_true]
    rw [e3]
    simp only []
    rw [em_back hl]
    simp only [hl 44 0 2 rfl (by decide) (by decide), cond_true]
    rw [e4]
    simp only []
    rw [em_back hl]
theorem ol_leastSetting (hl : LK lk) (hG : GB d B R C T τ) (hS : d 46 0 0 = Int32.ofNat S) (hS4 : S ≤ 4) {k p L H : Nat} (hk : k < 7) (hp1 : 1 ≤ p) (hp : p ≤ 300) (hL2 : L < 2) (hL : ev_sa 0 k = Int32.ofNat L) (hH4 : 4 ≤ H) (hH1 : H < 100) (hH : ev_sa 1 k = Int32.ofNat H) (hH0 : k = 0 → H = 4) :
    OPL (100, 0, [ev_R 27 0, ev_I (Int32.ofNat k), ev_I (Int32.ofNat p)], [], 0, 0) (206, 0, [ev_R 44 0, ev_I (Int32.ofNat k), ev_I (Int32.ofNat p)], [], 0, 0) lk d (ms_ls (fun m => ms_tl (d 45 0) C R B (ms_sS k S m) p (ev_u1 (d 46 0) k (Int32.ofNat m))) (H + 1 - L) L) := by
  obtain ⟨g1, g2, g3, hτ, htr⟩ := GB_trial hG
  obtain ⟨K, hs⟩ := g3.1
  have zx : 0 ≤ Int32.ofNat k ∧ Int32.ofNat k ≤ 6 := ⟨ni_lo (by omega), (ni_le (b := 6) (by omega) (by omega)).mpr (by omega)⟩
  have x0 : ¬ Int32.ofNat k < 0 := Int32.not_lt.mpr zx.1
  have x7 : Int32.ofNat k < 7 := (ni_lt (b := 7) (by omega) (by omega)).mpr (by omega)
  have z : 1 ≤ Int32.ofNat p ∧ Int32.ofNat p ≤ 300 := ⟨(ni_le (a := 1) (by omega) (by omega)).mpr hp1, (ni_le (b := 300) (by omega) (by omega)).mpr hp⟩
  have hGs : ∀ m, L ≤ m → m ≤ H → ∃ dm, GS dm 2 (ev_u1 (d 46 0) k (Int32.ofNat m)) B R C T τ ∧ TW dm (d 45 0) T := fun m h1 h2 => by
    obtain ⟨d1, e1, f1, s1⟩ := ec_trial (n := 0) (o := ev_W0) hl g3 htr
    have s2 := GS_set s1 (k := k) (v := m) (by omega) (by rw [hL]; exact (ni_le (by omega) (by omega)).mpr h1) (by rw [hH]; exact (ni_le (by omega) (by omega)).mpr h2) (by omega)
    have f2 : FT d1 (ev_u3 d1 1 2 k (Int32.ofNat m)) 2 := FT_01 (by decide)
    exact ⟨_, s2, TW_FT g2 (FT_t f1 f2)⟩
  intro n o hn
  obtain ⟨d2, e2, f⟩ := ec_leastLoop (n := n) (o := o) hl (k := k) (x := p) (by omega) hL hH hH1 hH0 g1 (by omega) hS hS4 (H + 1 - L) L d (by omega) (Nat.le_refl L) g2 g3 htr
  obtain ⟨q1, q44, q45, q46⟩ := FT2_1 f
  have t45 : mm_try (ev_u3 d2 44 0 0 0) 45 = d 45 := by rw [mm_try_n (by decide), u3n (by decide), q45]
  have t46 : mm_try (ev_u3 d2 44 0 0 0) 46 = d 46 := by rw [mm_try_n (by decide), u3n (by decide), q46]
  obtain ⟨d3, e3, mt, b3⟩ := em_leastLoop (n := n) (o := o) hl (d0 := ev_u3 d2 44 0 0 0) (k := k) (x := p) (by omega) hL hH hH1 hH0 g1 (by omega) hS hS4 g3.2 (by omega) (cs_w9 hs) hGs (fun j _ => by rw [u3n (by decide), q46]) (H + 1 - L) L (mm_try (ev_u3 d2 44 0 0 0)) (by omega) (Nat.le_refl L) MT_try (by rw [t45]) (fun j _ => by rw [t46])
  refine ⟨d2, d3, GF_t (GF_FT f) (GF_t GF_thrown (GF_M mt.1 (fun j hj => by rw [b3 j hj, u3n (by decide), q46]))), fun r hr => by rw [mt.1 r (by omega) (by omega), u3n (by omega)], ?_, ?_⟩
  · refine EV_bk (k := 400) ?_
    rw [bk_100_0, if_neg x0, if_pos x7, ec_reqTicks hn, if_pos z]
    simp only [ev_bv, ni_in (n := k) (N := 7) (by omega) (by omega), ni_c (n := k) (by omega), cond_true, hL]
    exact e2
  · refine EV_bk (k := 400) ?_
    rw [bk_206_0, em_noSetting, if_pos zx]
    simp only [ev_bi, ↓reduceIte]
    rw [em_noTicks u3s, if_pos z]
    simp only [↓reduceIte]
    rw [em_try hl]
    simp only [ev_bv]
    rw [em_lowOf (by omega), hL]
    exact e3
def ol_nxv (t p : Nat → Int32) (C R B S b : Nat) : Nat → Int32
  | 0 => Int32.ofNat (ms_wi t p C R b)
  | 1 => ms_b01 (ms_gg t p C R B S b)
  | 2 => ms_to t p C R B S b
  | _ => ms_en (ms_sv t p C R B S b)
theorem ol_next (hl : LK lk) (hG : GB d B R C T τ) (hS : d 46 0 0 = Int32.ofNat S) (hS4 : S ≤ 4) {b k : Nat} (hb : b < B) (hk : k < 4) :
    OPL (97, 0, [ev_R 27 0, ev_I (Int32.ofNat b), ev_I (Int32.ofNat k)], [], 0, 0) (202, 0, [ev_R 44 0, ev_I (Int32.ofNat b), ev_I (Int32.ofNat k)], [], 0, 0) lk d (ol_nxv (d 45 0) (ms_pre (d 45 0) (d 46 0) C B) C R B S b k) := by
  obtain ⟨g1, g2, g3, hτ, htr⟩ := GB_trial hG
  obtain ⟨⟨t0, t1, b1, b4, r1, r16⟩, -⟩ := id g1
  have hB := g2.1.1.trans t0
  have zb : 0 ≤ Int32.ofNat b ∧ Int32.ofNat b < Int32.ofNat B := ⟨ni_lo (by omega), (ni_lt (by omega) (by omega)).mpr hb⟩
  have z : 0 ≤ Int32.ofNat k ∧ Int32.ofNat k ≤ 3 := ⟨ni_lo (by omega), (ni_le (b := 3) (by omega) (by omega)).mpr (by omega)⟩
  have main : ∀ n o, 384 ≤ n → ∃ d1 d2 L, GF d d2 ∧ EV (63, 0, [ev_R 0 2, ev_R 0 1], [], 0, 0) (n, lk, d, o) = some (.inl none, (n, lk, d1, o)) ∧ EV (71, 0, [ev_R 32 0, ev_R 0 2], [], 0, 0) (n, lk, d1, o) = some (.inl (some (ev_I L)), (n, lk, d2, o)) ∧
      (d2 9 2 b = Int32.ofNat (ms_wi (d 45 0) (ms_pre (d 45 0) (d 46 0) C B) C R b) ∧ d2 10 2 b = ms_b01 (ms_gg (d 45 0) (ms_pre (d 45 0) (d 46 0) C B) C R B S b) ∧ d2 37 0 b = ms_to (d 45 0) (ms_pre (d 45 0) (d 46 0) C B) C R B S b ∧ d2 38 0 b = ms_en (ms_sv (d 45 0) (ms_pre (d 45 0) (d 46 0) C B) C R B S b)) ∧
      ∀ o', ∃ d3, EV (178, 0, [ev_R 44 0], [], 0, 0) (n, lk, mm_try (ev_u3 d2 44 0 0 0), o') = some (.inl none, (n, lk, d3, o')) ∧ MT (ev_u3 d2 44 0 0 0) d3 ∧
      (mm_back d3 51 0 b = Int32.ofNat (ms_wi (d 45 0) (ms_pre (d 45 0) (d 46 0) C B) C R b) ∧ mm_back d3 52 0 b = ms_b01 (ms_gg (d 45 0) (ms_pre (d 45 0) (d 46 0) C B) C R B S b) ∧ mm_back d3 53 0 b = ms_to (d 45 0) (ms_pre (d 45 0) (d 46 0) C B) C R B S b ∧ mm_back d3 54 0 b = ms_en (ms_sv (d 45 0) (ms_pre (d 45 0) (d 46 0) C B) C R B S b)) := by
    intro n o hn
    obtain ⟨d1, e1, f1, s1⟩ := ec_trial (n := n) (o := o) hl g3 htr
    obtain ⟨d2, e2, f2, s2, -, k2⟩ := ec_tickG (n := n) (o := o) hl (i := 2) (by decide) s1 (TW_FT g2 f1) g1 hS hS4 (by omega)
    have f := FT_t f1 f2
    obtain ⟨q1, q44, q45, q46⟩ := FT2_1 f
    have t45 : mm_try (ev_u3 d2 44 0 0 0) 45 = d 45 := by rw [mm_try_n (by decide), u3n (by decide), q45]
    have t46 : mm_try (ev_u3 d2 44 0 0 0) 46 = d 46 := by rw [mm_try_n (by decide), u3n (by decide), q46]
    obtain ⟨⟨K2, h2⟩, -⟩ := s2
    obtain ⟨w6, w7⟩ := ms_tick_67 (S := S) g1 g3.2 hb
    refine ⟨d1, d2, _, GF_FT f, e1, e2, ⟨by rw [cs_9 h2 (by omega), w6], by rw [cs_10 h2 (by omega), w7], (k2 b hb).1, (k2 b hb).2⟩, fun o' => ?_⟩
    obtain ⟨d3, e3, m3, sm3, k3⟩ := em_plans (n := n) (o := o') hl (d := mm_try (ev_u3 d2 44 0 0 0)) (B := B) (R := R) (C := C) (S := S) (by
      have ok := (GS_OK g1 g3 hS hS4).1
      unfold ms_D at ok ⊢
      rw [t45, t46]
      exact ok)
    rw [t45, t46] at k3
    obtain ⟨y1, y2, y3, y4, y5⟩ := k3 b hb
    exact ⟨d3, e3, MT_same MT_try (ms_same_plans sm3), by rw [mm_back_n (by decide), y2], by rw [mm_back_n (by decide), y3], by rw [mm_back_n (by decide), y5], by rw [mm_back_n (by decide), y4]⟩
  match k, hk, z with
  | 0, _, z =>
    show OPL (97, 0, [ev_R 27 0, ev_I (Int32.ofNat b), ev_I (Int32.ofNat 0)], [], 0, 0) (202, 0, [ev_R 44 0, ev_I (Int32.ofNat b), ev_I (Int32.ofNat 0)], [], 0, 0) lk d (Int32.ofNat (ms_wi (d 45 0) (ms_pre (d 45 0) (d 46 0) C B) C R b))
    intro n o hn
    obtain ⟨d1, d2, L, f, e1, e2, ⟨c0, c1, c2, c3⟩, fm⟩ := main n o hn
    obtain ⟨d3, e3, mt, r0, r1', r2, r3⟩ := fm o
    refine ⟨d2, mm_back d3, GF_t f (GF_t GF_thrown (MT_GF mt)), CR_MT mt, ?_, ?_⟩
    · refine EV_bk (k := 400) ?_
      rw [bk_97_0, ec_reqBank hl hn hB, if_pos zb]
      simp (decide := true) only [ev_bv, ↓reduceIte, hl 27 0 4 rfl (by decide) (by decide), hl 27 0 5 rfl (by decide) (by decide), cond_true]
      rw [e1]
      simp only [hl 27 0 2 rfl (by decide) (by decide), hl 27 0 5 rfl (by decide) (by decide), cond_true]
      rw [e2]
      simp (decide := true) only [ev_bi, ↓reduceIte, hl 27 0 2 rfl (by decide) (by decide), hl 27 0 5 rfl (by decide) (by decide), hl 32 0 5 rfl (by decide) (by decide), hl 32 0 6 rfl (by decide) (by decide), show lk 0 2 6 = true from hl 0 2 6 rfl (by decide) (by decide), show lk 3 2 5 = true from hl 3 2 5 rfl (by decide) (by decide), show lk 3 2 6 = true from hl 3 2 6 rfl (by decide) (by decide), cond_true, ni_in (n := b) (N := 4) (by omega) (by omega), ni_c (n := b) (by omega), c0, c1, c2, c3]
    · refine EV_bk (k := 400) ?_
      rw [bk_202_0, em_noBank hl (by rw [FTk45 f]; exact t0) b4, if_pos zb]
      simp (decide := true) only [ev_bi, ↓reduceIte]
      rw [em_in z]
      simp (decide := true) only [↓reduceIte]
      rw [em_throws0 u3s]
      simp (decide := true) only [↓reduceIte]
      rw [em_try hl]
      simp only [ev_bv]
      rw [e3]
      simp only []
      rw [em_back hl]
      simp (decide := true) only [↓reduceIte, hl 44 0 18 rfl (by decide) (by decide), hl 44 0 19 rfl (by decide) (by decide), hl 44 0 20 rfl (by decide) (by decide), hl 44 0 21 rfl (by decide) (by decide), cond_true, ni_in (n := b) (N := 4) (by omega) (by omega), ni_c (n := b) (by omega), r0, r1', r2, r3]
  | 1, _, z =>
    show OPL (97, 0, [ev_R 27 0, ev_I (Int32.ofNat b), ev_I (Int32.ofNat 1)], [], 0, 0) (202, 0, [ev_R 44 0, ev_I (Int32.ofNat b), ev_I (Int32.ofNat 1)], [], 0, 0) lk d (ms_b01 (ms_gg (d 45 0) (ms_pre (d 45 0) (d 46 0) C B) C R B S b))
    intro n o hn
    obtain ⟨d1, d2, L, f, e1, e2, ⟨c0, c1, c2, c3⟩, fm⟩ := main n o hn
    obtain ⟨d3, e3, mt, r0, r1', r2, r3⟩ := fm o
    refine ⟨d2, mm_back d3, GF_t f (GF_t GF_thrown (MT_GF mt)), CR_MT mt, ?_, ?_⟩
    · refine EV_bk (k := 400) ?_
      rw [bk_97_0, ec_reqBank hl hn hB, if_pos zb]
      simp (decide := true) only [ev_bv, ↓reduceIte, hl 27 0 4 rfl (by decide) (by decide), hl 27 0 5 rfl (by decide) (by decide), cond_true]
      rw [e1]
      simp only [hl 27 0 2 rfl (by decide) (by decide), hl 27 0 5 rfl (by decide) (by decide), cond_true]
      rw [e2]
      simp (decide := true) only [ev_bi, ↓reduceIte, hl 27 0 2 rfl (by decide) (by decide), hl 27 0 5 rfl (by decide) (by decide), hl 32 0 5 rfl (by decide) (by decide), hl 32 0 6 rfl (by decide) (by decide), show lk 0 2 6 = true from hl 0 2 6 rfl (by decide) (by decide), show lk 3 2 5 = true from hl 3 2 5 rfl (by decide) (by decide), show lk 3 2 6 = true from hl 3 2 6 rfl (by decide) (by decide), cond_true, ni_in (n := b) (N := 4) (by omega) (by omega), ni_c (n := b) (by omega), c0, c1, c2, c3]
    · refine EV_bk (k := 400) ?_
      rw [bk_202_0, em_noBank hl (by rw [FTk45 f]; exact t0) b4, if_pos zb]
      simp (decide := true) only [ev_bi, ↓reduceIte]
      rw [em_in z]
      simp (decide := true) only [↓reduceIte]
      rw [em_throws0 u3s]
      simp (decide := true) only [↓reduceIte]
      rw [em_try hl]
      simp only [ev_bv]
      rw [e3]
      simp only []
      rw [em_back hl]
      simp (decide := true) only [↓reduceIte, hl 44 0 18 rfl (by decide) (by decide), hl 44 0 19 rfl (by decide) (by decide), hl 44 0 20 rfl (by decide) (by decide), hl 44 0 21 rfl (by decide) (by decide), cond_true, ni_in (n := b) (N := 4) (by omega) (by omega), ni_c (n := b) (by omega), r0, r1', r2, r3]
      cases ms_gg (d 45 0) (ms_pre (d 45 0) (d 46 0) C B) C R B S b <;> rfl
  | 2, _, z =>
    show OPL (97, 0, [ev_R 27 0, ev_I (Int32.ofNat b), ev_I (Int32.ofNat 2)], [], 0, 0) (202, 0, [ev_R 44 0, ev_I (Int32.ofNat b), ev_I (Int32.ofNat 2)], [], 0, 0) lk d (ms_to (d 45 0) (ms_pre (d 45 0) (d 46 0) C B) C R B S b)
    intro n o hn
    obtain ⟨d1, d2, L, f, e1, e2, ⟨c0, c1, c2, c3⟩, fm⟩ := main n o hn
    obtain ⟨d3, e3, mt, r0, r1', r2, r3⟩ := fm o
    refine ⟨d2, mm_back d3, GF_t f (GF_t GF_thrown (MT_GF mt)), CR_MT mt, ?_, ?_⟩
    · refine EV_bk (k := 400) ?_
      rw [bk_97_0, ec_reqBank hl hn hB, if_pos zb]
      simp (decide := true) only [ev_bv, ↓reduceIte, hl 27 0 4 rfl (by decide) (by decide), hl 27 0 5 rfl (by decide) (by decide), cond_true]
      rw [e1]
      simp only [hl 27 0 2 rfl (by decide) (by decide), hl 27 0 5 rfl (by decide) (by decide), cond_true]
      rw [e2]
      simp (decide := true) only [ev_bi, ↓reduceIte, hl 27 0 2 rfl (by decide) (by decide), hl 27 0 5 rfl (by decide) (by decide), hl 32 0 5 rfl (by decide) (by decide), hl 32 0 6 rfl (by decide) (by decide), show lk 0 2 6 = true from hl 0 2 6 rfl (by decide) (by decide), show lk 3 2 5 = true from hl 3 2 5 rfl (by decide) (by decide), show lk 3 2 6 = true from hl 3 2 6 rfl (by decide) (by decide), cond_true, ni_in (n := b) (N := 4) (by omega) (by omega), ni_c (n := b) (by omega), c0, c1, c2, c3]
    · refine EV_bk (k := 400) ?_
      rw [bk_202_0, em_noBank hl (by rw [FTk45 f]; exact t0) b4, if_pos zb]
      simp (decide := true) only [ev_bi, ↓reduceIte]
      rw [em_in z]
      simp (decide := true) only [↓reduceIte]
      rw [em_throws0 u3s]
      simp (decide := true) only [↓reduceIte]
      rw [em_try hl]
      simp only [ev_bv]
      rw [e3]
      simp only []
      rw [em_back hl]
      simp (decide := true) only [↓reduceIte, hl 44 0 18 rfl (by decide) (by decide), hl 44 0 19 rfl (by decide) (by decide), hl 44 0 20 rfl (by decide) (by decide), hl 44 0 21 rfl (by decide) (by decide), cond_true, ni_in (n := b) (N := 4) (by omega) (by omega), ni_c (n := b) (by omega), r0, r1', r2, r3]
  | 3, _, z =>
    show OPL (97, 0, [ev_R 27 0, ev_I (Int32.ofNat b), ev_I (Int32.ofNat 3)], [], 0, 0) (202, 0, [ev_R 44 0, ev_I (Int32.ofNat b), ev_I (Int32.ofNat 3)], [], 0, 0) lk d (ms_en (ms_sv (d 45 0) (ms_pre (d 45 0) (d 46 0) C B) C R B S b))
    intro n o hn
    obtain ⟨d1, d2, L, f, e1, e2, ⟨c0, c1, c2, c3⟩, fm⟩ := main n o hn
    obtain ⟨d3, e3, mt, r0, r1', r2, r3⟩ := fm o
    refine ⟨d2, mm_back d3, GF_t f (GF_t GF_thrown (MT_GF mt)), CR_MT mt, ?_, ?_⟩
    · refine EV_bk (k := 400) ?_
      rw [bk_97_0, ec_reqBank hl hn hB, if_pos zb]
      simp (decide := true) only [ev_bv, ↓reduceIte, hl 27 0 4 rfl (by decide) (by decide), hl 27 0 5 rfl (by decide) (by decide), cond_true]
      rw [e1]
      simp only [hl 27 0 2 rfl (by decide) (by decide), hl 27 0 5 rfl (by decide) (by decide), cond_true]
      rw [e2]
      simp (decide := true) only [ev_bi, ↓reduceIte, hl 27 0 2 rfl (by decide) (by decide), hl 27 0 5 rfl (by decide) (by decide), hl 32 0 5 rfl (by decide) (by decide), hl 32 0 6 rfl (by decide) (by decide), show lk 0 2 6 = true from hl 0 2 6 rfl (by decide) (by decide), show lk 3 2 5 = true from hl 3 2 5 rfl (by decide) (by decide), show lk 3 2 6 = true from hl 3 2 6 rfl (by decide) (by decide), cond_true, ni_in (n := b) (N := 4) (by omega) (by omega), ni_c (n := b) (by omega), c0, c1, c2, c3]
    · refine EV_bk (k := 400) ?_
      rw [bk_202_0, em_noBank hl (by rw [FTk45 f]; exact t0) b4, if_pos zb]
      simp (decide := true) only [ev_bi, ↓reduceIte]
      rw [em_in z]
      simp (decide := true) only [↓reduceIte]
      rw [em_throws0 u3s]
      simp (decide := true) only [↓reduceIte]
      rw [em_try hl]
      simp only [ev_bv]
      rw [e3]
      simp only []
      rw [em_back hl]
      simp (decide := true) only [↓reduceIte, hl 44 0 18 rfl (by decide) (by decide), hl 44 0 19 rfl (by decide) (by decide), hl 44 0 20 rfl (by decide) (by decide), hl 44 0 21 rfl (by decide) (by decide), cond_true, ni_in (n := b) (N := 4) (by omega) (by omega), ni_c (n := b) (by omega), r0, r1', r2, r3]
end OL2
