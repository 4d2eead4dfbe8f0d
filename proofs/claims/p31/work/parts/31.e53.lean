def ev_W0 : ev_W := (0, fun _ => 0, fun _ _ _ => 0, fun _ _ _ => 0)
/-! THE PROGRAM AGAINST THE REFERENCE, 39: losses only rise -/
theorem ni_sum (a b : Nat) (x : Int32) : x + Int32.ofNat a + Int32.ofNat b = x + Int32.ofNat (a + b) := by rw [Int32.add_assoc, ← Int32.ofNat_add]
theorem ms_ages_14 {t w : Nat → Int32} {b r : Nat} {to hot : Int32} : ∃ l, l ≤ 1 ∧ ms_ages t w b r to hot 14 = w 14 + Int32.ofNat l := by
  unfold ms_ages
  split
  · refine ⟨0, by omega, ?_⟩
    rw [u1n (by omega), u1n (by omega)]
    exact (Int32.add_zero _).symm
  · split
    · refine ⟨1, by omega, ?_⟩
      unfold ms_lose ms_age1
      simp (disch := omega) only [u1n, u1s]
      rfl
    · refine ⟨0, by omega, ?_⟩
      unfold ms_age1
      rw [u1n (by omega)]
      exact (Int32.add_zero _).symm
theorem ms_rows_14 {t w : Nat → Int32} {b : Nat} {to hot : Int32} : ∀ r, ∃ l, l ≤ r ∧ ms_rows t w b to hot r 14 = w 14 + Int32.ofNat l
  | 0 => ⟨0, Nat.le_refl 0, (Int32.add_zero _).symm⟩
  | r + 1 => by
    obtain ⟨l, hl, e⟩ := ms_rows_14 (t := t) (w := w) (b := b) (to := to) (hot := hot) r
    obtain ⟨l2, hl2, e2⟩ := ms_ages_14 (t := t) (w := ms_rows t w b to hot r) (b := b) (r := r) (to := to) (hot := hot)
    exact ⟨l + l2, by omega, by
      show ms_ages t (ms_rows t w b to hot r) b r to hot 14 = _
      rw [e2, e, ni_sum]⟩
theorem ms_grow_14 {t w : Nat → Int32} {R : Nat} {to hot : Nat → Int32} {sv : Nat → Option Nat} (h16 : R ≤ 16) : ∀ b, ∃ l, l ≤ 16 * b ∧ ms_grow t w R to hot sv b 14 = w 14 + Int32.ofNat l
  | 0 => ⟨0, Nat.le_refl 0, (Int32.add_zero _).symm⟩
  | b + 1 => by
    obtain ⟨l, hl, e⟩ := ms_grow_14 (t := t) (w := w) (to := to) (hot := hot) (sv := sv) h16 b
    obtain ⟨l2, hl2, e2⟩ := ms_rows_14 (t := t) (w := ms_grow t w R to hot sv b) (b := b) (to := to b) (hot := hot b) R
    exact ⟨l + l2, by omega, by
      show ms_cool1 (ms_rows t (ms_grow t w R to hot sv b) b (to b) (hot b) R) b (sv b) 14 = _
      rw [ms_cool1_n (by omega), e2, e, ni_sum]⟩
theorem ms_tick_14 {t w : Nat → Int32} {B R C T τ S : Nat} (hT : TC t B R) (h : SI w B R C T τ) : ∃ l, l ≤ 64 ∧ ms_tick t w C R B S 14 = w 14 + Int32.ofNat l := by
  obtain ⟨⟨t0, t1, b1, b4, r1, r16⟩, -⟩ := id hT
  have prow : ∀ q, q < C → ∃ r, r < 16 ∧ ms_pre t w C B (375 + 6 * q + 1) = Int32.ofNat r := fun q hq => by
    obtain ⟨r, hr, e⟩ := SI_row h r16 q hq
    exact ⟨r, hr, by rw [ms_pre_q1 (k := 1) (by omega) b4, e]⟩
  have p14 : ms_pre t w C B 14 = w 14 := ms_pre_lo (by omega) (by omega) (by omega)
  unfold ms_tick
  generalize ms_pre t w C B = p at *
  have hTS : ms_TS B (ms_sv t p C R B S) (ms_to t p C R B S) := fun b hb => by
    obtain ⟨y1, y2⟩ := ms_sv_to (t := t) (S := S) (B := B) (b := b) r16 prow
    exact ⟨y2, fun q hq => (y1 q hq).2⟩
  obtain ⟨l, hl, e⟩ := ms_grow_14 (t := t) (w := ms_acts p (ms_wi t p C R) (ms_gg t p C R B S) (ms_sv t p C R B S) (ms_to t p C R B S) B) (to := ms_to t p C R B S) (hot := ms_was p (ms_wi t p C R) (ms_gg t p C R B S) (ms_sv t p C R B S) (ms_to t p C R B S)) (sv := ms_sv t p C R B S) r16 B
  refine ⟨l, by omega, ?_⟩
  have en : ∀ (W : Nat → Int32), ms_end W 14 = W 14 := fun W => u1n (by omega)
  rw [en, e, ms_acts_n hTS b4 (.inr (.inl rfl)) B (Nat.le_refl B), p14]
theorem ni_diff (x : Int32) (l : Nat) : x + Int32.ofNat l - x = Int32.ofNat l := by
  rw [Int32.sub_eq_add_neg, Int32.add_comm x, Int32.add_assoc, Int32.add_right_neg, Int32.add_zero]
/-- no loss in k ticks, told in both ways -/
theorem ms_ticks_14 {t : Nat → Int32} {B R C T S : Nat} (hT : TC t B R) : ∀ k τ (w : Nat → Int32), SI w B R C T τ → τ + k ≤ 3000 → ∃ l, l ≤ 64 * k ∧ ms_ticks t w C R B S k 14 = w 14 + Int32.ofNat l ∧ (l = 0 ↔ ms_tl t C R B S k w = -1)
  | 0, τ, w, h, hτ => ⟨0, Nat.le_refl 0, (Int32.add_zero _).symm, fun _ => rfl, fun _ => rfl⟩
  | k + 1, τ, w, h, hτ => by
    obtain ⟨l1, hl1, e1⟩ := ms_tick_14 (S := S) hT h
    obtain ⟨l2, hl2, e2, e3⟩ := ms_ticks_14 (S := S) hT k (τ + 1) (ms_tick t w C R B S) (SI_tick hT h (by omega)) (by omega)
    refine ⟨l1 + l2, by omega, ?_, ?_⟩
    · show ms_ticks t (ms_tick t w C R B S) C R B S k 14 = _
      rw [e2, e1, ni_sum]
    · have hst : ms_tl t C R B S (k + 1) w = if ms_tick t w C R B S 14 - w 14 ≤ 0 then ms_tl t C R B S k (ms_tick t w C R B S) else w 8 := rfl
      rw [hst, e1, ni_diff]
      by_cases z : l1 = 0
      · subst z
        rw [if_pos (show Int32.ofNat 0 ≤ 0 from Int32.le_refl _), ← e3]
        omega
      · have z' : ¬ Int32.ofNat l1 ≤ 0 := fun v => z (by
          have := (ni_le (b := 0) (by omega) (by omega)).mp v
          omega)
        rw [if_neg z', h.2.2.1.1]
        refine ⟨fun v => by omega, fun v => ?_⟩
        have h0 : (0 : Int32) ≤ Int32.ofNat τ := ni_lo (by omega)
        rw [v] at h0
        exact absurd h0 (by decide)
/-- what a setting may be -/
theorem SI_set {w : Nat → Int32} {B R C T τ k v : Nat} (h : SI w B R C T τ) (hk : k < 7) (h1 : ev_sa 0 k ≤ Int32.ofNat v) (h2 : Int32.ofNat v ≤ ev_sa 1 k) (hv : v < 1000) : SI (ev_u1 w k (Int32.ofNat v)) B R C T τ := by
  obtain ⟨⟨c1, c2, c3⟩, c4, ⟨c5, c5'⟩, ⟨c6, c7, c8, c9⟩, c10, c11, c12, c13⟩ := h
  have hh : ∀ j, 8 ≤ j → ev_u1 w k (Int32.ofNat v) j = w j := fun j hj => u1n (by omega)
  refine ⟨⟨c1, c2, fun q a b => ?_⟩, fun q hq => ?_, ⟨?_, c5'⟩, ⟨?_, ?_, ?_, ?_⟩, fun b hb => ?_, fun c hc => ?_, fun b hb => ?_, ?_⟩
  · rw [hh _ (by omega)]; exact c3 q a b
  · rw [hh _ (by omega), hh _ (by omega)]; exact c4 q hq
  · rw [hh _ (by omega)]; exact c5
  · by_cases z : k = 0
    · subst z
      refine ⟨v, ?_, u1s _ _ _⟩
      exact (ni_le (b := 4) (by omega) (by omega)).mp h2
    · rw [u1n (by omega)]; exact c6
  · by_cases z : k = 1
    · subst z
      rw [u1s]
      have a1 : (1 : Int32) ≤ Int32.ofNat v := h1
      have a2 : Int32.ofNat v ≤ 8 := h2
      rw [i32_le, ni_t (by omega), show (1 : Int32).toInt = 1 from by decide] at a1
      rw [i32_le, ni_t (by omega), show (8 : Int32).toInt = 8 from by decide] at a2
      unfold ms_rg
      rw [ni_t (by omega)]
      omega
    · rw [u1n (by omega)]; exact c7
  · by_cases z : k = 2
    · subst z
      rw [u1s]
      have a2 : Int32.ofNat v ≤ 8 := h2
      rw [i32_le, ni_t (by omega), show (8 : Int32).toInt = 8 from by decide] at a2
      unfold ms_rg
      rw [ni_t (by omega)]
      omega
    · rw [u1n (by omega)]; exact c8
  · refine ⟨by rw [u1n (by omega)]; exact c9.1, ?_⟩
    by_cases z : k = 3
    · subst z
      rw [u1s]
      have a1 : (1 : Int32) ≤ Int32.ofNat v := h1
      have a2 : Int32.ofNat v ≤ 99 := h2
      rw [i32_le, ni_t (by omega), show (1 : Int32).toInt = 1 from by decide] at a1
      rw [i32_le, ni_t (by omega), show (99 : Int32).toInt = 99 from by decide] at a2
      unfold ms_rg
      rw [ni_t (by omega)]
      omega
    · rw [u1n (by omega)]; exact c9.2
  · rw [hh _ (by omega)]; exact c10 b hb
  · rw [hh _ (by omega)]; exact c11 c hc
  · rw [hh _ (by omega), c12 b hb, ms_many_c (w' := ev_u1 w k (Int32.ofNat v)) (w := w) (fun q hq => by rw [hh _ (by omega), hh _ (by omega)])]
  · rw [hh _ (by omega)]; exact c13
theorem SI_trading {w : Nat → Int32} {B R C T τ : Nat} {v : Int32} (h : SI w B R C T τ) (hv : v = 0 ∨ v = 1) : SI (ev_u1 w 7 v) B R C T τ := by
  obtain ⟨⟨c1, c2, c3⟩, c4, ⟨c5, c5'⟩, ⟨c6, c7, c8, c9⟩, c10, c11, c12, c13⟩ := h
  have hh : ∀ j, j ≠ 7 → ev_u1 w 7 v j = w j := fun j hj => u1n hj
  refine ⟨⟨c1, c2, fun q a b => ?_⟩, fun q hq => ?_, ⟨?_, c5'⟩, ⟨?_, ?_, ?_, ?_⟩, fun b hb => ?_, fun c hc => ?_, fun b hb => ?_, ?_⟩
  · rw [hh _ (by omega)]; exact c3 q a b
  · rw [hh _ (by omega), hh _ (by omega)]; exact c4 q hq
  · rw [hh _ (by omega)]; exact c5
  · rw [hh _ (by omega)]; exact c6
  · rw [hh _ (by omega)]; exact c7
  · rw [hh _ (by omega)]; exact c8
  · exact ⟨by rw [u1s]; exact hv, by rw [hh _ (by omega)]; exact c9.2⟩
  · rw [hh _ (by omega)]; exact c10 b hb
  · rw [hh _ (by omega)]; exact c11 c hc
  · rw [hh _ (by omega), c12 b hb, ms_many_c (w' := ev_u1 w 7 v) (w := w) (fun q hq => by rw [hh _ (by omega), hh _ (by omega)])]
  · rw [hh _ (by omega)]; exact c13
theorem GS_trading {d : Nat → Nat → Nat → Int32} {i : Nat} {w : Nat → Int32} {B R C T τ : Nat} {v : Int32} (h : GS d i w B R C T τ) (hv : v = 0 ∨ v = 1) : GS (ev_u3 d 0 i 1 v) i (ev_u1 w 7 v) B R C T τ := by
  obtain ⟨⟨K, h1⟩, h2⟩ := h
  exact ⟨⟨K, CS_trading h1⟩, SI_trading h2 hv⟩
theorem GS_set {d : Nat → Nat → Nat → Int32} {i : Nat} {w : Nat → Int32} {B R C T τ k v : Nat} (h : GS d i w B R C T τ) (hk : k < 7) (h1 : ev_sa 0 k ≤ Int32.ofNat v) (h2 : Int32.ofNat v ≤ ev_sa 1 k) (hv : v < 1000) : GS (ev_u3 d 1 i k (Int32.ofNat v)) i (ev_u1 w k (Int32.ofNat v)) B R C T τ := by
  obtain ⟨⟨K, c1⟩, c2⟩ := h
  exact ⟨⟨K, CS_setting c1 hk⟩, SI_set c2 hk h1 h2 hv⟩
theorem FT_01 {d : Nat → Nat → Nat → Int32} {i : Nat} {r k : Nat} {v : Int32} (hr : r < 24) : FT d (ev_u3 d r i k v) i := FR_FT (FR_u3 hr)
section EC28
variable {n : Nat} {lk : Nat → Nat → Nat → Bool} {d : Nat → Nat → Nat → Int32} {o : ev_W}
/-- what a run tells depends on the numbers of the memory alone -/
theorem ms_ticks_c (hl : LK lk) {t w w' : Nat → Int32} {C B R S T τ k : Nat} (hs : GS d 2 w B R C T τ) (hW : TW d t T) (hT : TC t B R) (hS : w 0 = Int32.ofNat S) (hS4 : S ≤ 4) (hτ : τ + k ≤ 3000) (h : ∀ j, j < 615 → w' j = w j) :
    ms_ticks t w' C R B S k 14 - w' 14 = ms_ticks t w C R B S k 14 - w 14 := by
  obtain ⟨d1, e1, -⟩ := ec_run (n := 0) (o := ev_W0) hl (i := 2) (by decide) (k := k) hs hW hT hS hS4 hτ
  obtain ⟨d2, e2, -⟩ := ec_run (n := 0) (o := ev_W0) hl (i := 2) (by decide) (k := k) (GS_w hs h) hW hT (by rw [h 0 (by omega), hS]) hS4 hτ
  rw [e1] at e2
  injection e2 with e2
  injection e2 with e2 _
  injection e2 with e2
  injection e2 with e2
  injection e2 with e2
  injection e2 with e2
  exact e2.symm
theorem ms_tl_c (hl : LK lk) {t w w' : Nat → Int32} {C B R S T τ k : Nat} (hs : GS d 2 w B R C T τ) (hW : TW d t T) (hT : TC t B R) (hS : w 0 = Int32.ofNat S) (hS4 : S ≤ 4) (hτ : τ + k ≤ 3000) (h : ∀ j, j < 615 → w' j = w j) :
    ms_tl t C R B S k w' = ms_tl t C R B S k w := by
  obtain ⟨d1, e1, -⟩ := ec_lossTime (n := 0) (o := ev_W0) hl (k := k) hs hW hT hS hS4 hτ
  obtain ⟨d2, e2, -⟩ := ec_lossTime (n := 0) (o := ev_W0) hl (k := k) (GS_w hs h) hW hT (by rw [h 0 (by omega), hS]) hS4 hτ
  rw [e1] at e2
  injection e2 with e2
  injection e2 with e2 _
  injection e2 with e2
  injection e2 with e2
  injection e2 with e2
  injection e2 with e2
  exact e2.symm
/-- the program's losses with trading on or off -/
theorem ec_lossesWith (hl : LK lk) {t w : Nat → Int32} {B R C T τ S k : Nat} {v : Int32} (hv : v = 0 ∨ v = 1) (g1 : TC t B R) (g2 : TW d t T) (g3 : GS d 1 w B R C T τ) (hτ : τ + k ≤ 3000) (hS : w 0 = Int32.ofNat S) (hS4 : S ≤ 4) (htr : d 0 1 1 = 0 ∨ d 0 1 1 = 1) :
    ∃ d', EV (123, 0, [ev_R 27 0, ev_I v, ev_I (Int32.ofNat k)], [], 0, 0) (n, lk, d, o) = some (.inl (some (ev_I (ms_ticks t (ev_u1 w 7 v) C R B S k 14 - w 14))), (n, lk, d', o)) ∧ FT d d' 2 ∧ ∃ d1, GS d1 2 (ev_u1 w 7 v) B R C T τ ∧ TW d1 t T := by
  obtain ⟨d1, e1, f1, s1⟩ := ec_trial (n := n) (o := o) hl g3 htr
  have s2 := GS_trading s1 hv
  have f2 : FT d1 (ev_u3 d1 0 2 1 v) 2 := FT_01 (by decide)
  have w2 := TW_FT g2 (FT_t f1 f2)
  obtain ⟨d3, e3, f3, -⟩ := ec_run (n := n) (o := o) hl (i := 2) (by decide) (k := k) s2 w2 g1 (by rw [u1n (by decide), hS]) hS4 hτ
  refine ⟨d3, ?_, FT_t (FT_t f1 f2) f3, _, s2, w2⟩
  have ok : ev_ok 2 v = true := by
    rcases hv with z | z <;> rw [z] <;> rfl
  refine EV_bk (k := 400) ?_
  rw [bk_123_0, hl 27 0 5 rfl (by decide) (by decide), cond_true, hl 27 0 4 rfl (by decide) (by decide), cond_true, e1]
  simp only [ev_bv, hl 27 0 5 rfl (by decide) (by decide), hl 27 0 2 rfl (by decide) (by decide), cond_true, ok]
  rw [e3, u1n (by decide)]
  rfl
theorem op_gain (hl : LK lk) (h : GI d) {x : Int32} : OPH (102, 0, [ev_R 27 0, ev_I x], [], 0, 0) (208, 0, [ev_R 44 0, ev_I x], [], 0, 0) kf_A lk d := by
  obtain ⟨B, R, T, C, τ, S, g1, g2, g3, hτ, hS, hS4, htr⟩ := GI_trial h
  by_cases z : 1 ≤ x ∧ x ≤ 300
  · obtain ⟨k, hk, ex⟩ := ni_of2 300 (by omega) (Int32.le_trans (by decide) z.1) z.2
    subst ex
    refine OPH_okt h (fun n o hn => ?_)
    obtain ⟨d1, e1, f1, dx, sx, wx⟩ := ec_lossesWith (n := n) (o := o) hl (v := 0) (k := k) (.inl rfl) g1 g2 g3 (by omega) hS hS4 htr
    obtain ⟨q1, q44, q45, q46⟩ := FT2_1 f1
    obtain ⟨d2, e2, f2, dy, sy, wy⟩ := ec_lossesWith (n := n) (o := o) (d := d1) hl (v := 1) (k := k) (.inr rfl) g1 (TW_FT g2 f1) (GS_d g3 q1) (by omega) hS hS4 (by rw [q1 0 (by decide)]; exact htr)
    have f := FT_t f1 f2
    obtain ⟨p1, p44, p45, p46⟩ := FT2_1 f
    have ok := GS_OK g1 g3 hS hS4
    have t45 : mm_try (ev_u3 d2 44 0 0 0) 45 = d 45 := by rw [mm_try_n (by decide), u3n (by decide), p45]
    have t46 : mm_try (ev_u3 d2 44 0 0 0) 46 = d 46 := by rw [mm_try_n (by decide), u3n (by decide), p46]
    have okm : ∀ (dd : Nat → Nat → Nat → Int32) (v : Int32), dd 45 0 = d 45 0 → (∀ j, j < 615 → dd 46 0 j = ev_u1 (d 46 0) 7 v j) → ms_OK dd B R C S := fun dd v h45 h46 => by
      obtain ⟨⟨x1, x2, x3, x4, x5, x6⟩, y⟩ := ok
      refine ⟨⟨by rw [h45]; exact x1, by rw [h45]; exact x2, by rw [h45]; exact x3, by rw [h46 9 (by omega), u1n (by omega)]; exact x4, by rw [h46 0 (by omega), u1n (by omega)]; exact x5, x6⟩, fun q hq => ?_⟩
      obtain ⟨r, hr, e⟩ := y q hq
      have h40 : C ≤ 40 := x6.2.2.2.2.1
      exact ⟨r, hr, by rw [h46 _ (by omega), u1n (by omega), e]⟩
    -- without
    obtain ⟨d3, e3, m3, sm3, -⟩ := em_lossesIn (n := n) (o := o) hl (d := ev_u3 (mm_try (ev_u3 d2 44 0 0 0)) 46 0 7 0) (k := k)
      (okm _ 0 (by rw [u3n (by decide), t45]) (fun j hj => by rw [u3r, t46])) (by omega)
    have c45 : ev_u3 (mm_try (ev_u3 d2 44 0 0 0)) 46 0 7 0 45 = d 45 := by rw [u3n (by decide), t45]
    have c46 : ev_u3 (mm_try (ev_u3 d2 44 0 0 0)) 46 0 7 0 46 0 = ev_u1 (d 46 0) 7 0 := by rw [u3r, t46]
    rw [m3, c45, c46, u1n (by decide)] at e3
    have mt3 : MT (ev_u3 d2 44 0 0 0) d3 := MT_same (MT_46 MT_try) sm3
    have b3 := MT_b46 mt3
    have k45 : d3 45 0 = d 45 0 := by rw [mt3.1 45 (by decide) (by decide), u3n (by decide), p45]
    -- with
    have w46 : ∀ j, j < 615 → ev_u3 (mm_back d3) 46 0 7 1 46 0 j = ev_u1 (d 46 0) 7 1 j := fun j hj => by
      rw [u3r]
      by_cases e : j = 7
      · rw [e, u1s, u1s]
      · rw [u1n e, u1n e, b3 j hj, u3n (by decide), p46]
    obtain ⟨d4, e4, m4, sm4, -⟩ := em_lossesIn (n := n) (o := o) hl (d := ev_u3 (mm_back d3) 46 0 7 1) (k := k)
      (okm _ 1 (by rw [u3n (by decide), mm_back_n (by decide), k45]) w46) (by omega)
    have eqv := ms_ticks_c hl (k := k) sy wy g1 (S := S) (by rw [u1n (by decide), hS]) hS4 (by omega) w46
    have c45' : ev_u3 (mm_back d3) 46 0 7 1 45 0 = d 45 0 := by rw [u3n (by decide), mm_back_n (by decide), k45]
    rw [m4, c45', eqv, u1n (by decide)] at e4
    have mt4 : MT (ev_u3 d2 44 0 0 0) d4 := MT_same (MT_46 (MT_back mt3)) sm4
    refine ⟨ms_ticks (d 45 0) (ev_u1 (d 46 0) 7 0) C R B S k 14 - d 46 0 14 - (ms_ticks (d 45 0) (ev_u1 (d 46 0) 7 1) C R B S k 14 - d 46 0 14), d2, mm_back d4, GF_FT f, GF_t GF_thrown (MT_GF mt4), by rw [mm_back_n (by decide), mt4.1 44 (by decide) (by decide), u3s], ?_, ?_⟩
    · refine EV_bk (k := 400) ?_
      rw [bk_102_0, ec_reqTicks hn, if_pos z]
      simp only [ev_bv]
      rw [e1]
      simp only [ev_bi]
      rw [e2]
    · refine EV_bk (k := 400) ?_
      rw [bk_208_0, em_noTicks u3s, if_pos z]
      simp only [ev_bi, ↓reduceIte]
      rw [em_try hl]
      simp only [ev_bv, hl 44 0 2 rfl (by decide) (by decide), cond_true]
      rw [e3]
      simp only []
      rw [em_back hl]
      simp only [hl 44 0 2 rfl (by decide) (by decide), cond_true]
      rw [e4]
      simp only []
      rw [em_back hl]
  · refine OPH_no (E := 0) (v := 0) h (GF_thrown (v := 1)) (by decide) (by decide) u3s (fun n o hn => ?_) (fun n o => ?_)
    · refine EV_bk (k := 400) ?_
      rw [bk_102_0, ec_reqTicks hn, if_neg z]
      rfl
    · refine EV_bk (k := 400) ?_
      rw [bk_208_0, em_noTicks u3s, if_neg z, u3u]
      simp (decide := true) only [ev_bi, ↓reduceIte]
end EC28
