/-! THE PROGRAM AGAINST THE REFERENCE, 36: runs of ticks on the trial state -/
theorem i32_tel {a b c y : Int32} : y + (b - a) + (c - b) = y + (c - a) := by
  simp only [Int32.sub_eq_add_neg]
  rw [Int32.add_assoc y, Int32.add_comm b (-a), Int32.add_assoc (-a) b, Int32.add_comm c (-b), ← Int32.add_assoc b (-b) c, Int32.add_right_neg, Int32.zero_add, Int32.add_comm (-a) c]
/-- the time of the first tick of k with a loss -/
def ms_tl (t : Nat → Int32) (C R B S : Nat) : Nat → (Nat → Int32) → Int32
  | 0, _ => -1
  | k + 1, w => if ms_tick t w C R B S 14 - w 14 ≤ 0 then ms_tl t C R B S k (ms_tick t w C R B S) else w 8
/-- how long a request waits, looked for through k ticks -/
def ms_wo (t : Nat → Int32) (C R B S q : Nat) : Nat → (Nat → Int32) → Int32
  | 0, w => if w (375 + 6 * q + 3) = 2 then w (375 + 6 * q + 4) - w (375 + 6 * q + 2) else -1
  | k + 1, w => if w (375 + 6 * q + 3) = 2 then w (375 + 6 * q + 4) - w (375 + 6 * q + 2) else ms_wo t C R B S q k (ms_tick t w C R B S)
theorem SI_row {w : Nat → Int32} {B R C T τ : Nat} (h : SI w B R C T τ) (r16 : R ≤ 16) : ∀ q, q < C → ∃ r, r < 16 ∧ w (375 + 6 * q + 1) = Int32.ofNat r := fun q hq => by
  obtain ⟨-, r, hr, e⟩ := h.2.1 q hq
  exact ⟨r, by omega, e⟩
theorem ms_tick_0 {t w : Nat → Int32} {B R C T τ S : Nat} (hT : TC t B R) (h : SI w B R C T τ) : ms_tick t w C R B S 0 = w 0 :=
  ms_tick_k (.inl (by omega)) hT.1.2.2.2.1 hT.1.2.2.2.2.2 (SI_row h hT.1.2.2.2.2.2)
/-- what the ticker stands over -/
def TW (d : Nat → Nat → Nat → Int32) (t : Nat → Int32) (T : Nat) : Prop := CL d 1 t ∧ d 24 1 4 = Int32.ofNat T
theorem TW_FT {d d' : Nat → Nat → Nat → Int32} {t : Nat → Int32} {T i : Nat} (h : TW d t T) (hf : FT d d' i) : TW d' t T := ⟨FT_CL hf h.1, (congrFun (hf 24 1 (.inl (by decide))) 4).trans h.2⟩
theorem FT_CPS {d d' : Nat → Nat → Nat → Int32} {i j : Nat} (h : CPS d d' i j 0 23) : FT d d' i := fun r x z => h.1 r x (by omega)
section EC25
variable {n : Nat} {lk : Nat → Nat → Nat → Bool} {d : Nat → Nat → Nat → Int32} {o : ev_W}
theorem ec_tickG (hl : LK lk) {i : Nat} (hi : i < 15) {t w : Nat → Int32} {C B R S T τ : Nat} (hs : GS d i w B R C T τ) (hW : TW d t T) (hT : TC t B R) (hS : w 0 = Int32.ofNat S) (hS4 : S ≤ 4) (hτ : τ + 1 ≤ 3000) :
    ∃ d', EV (71, 0, [ev_R 32 0, ev_R 0 i], [], 0, 0) (n, lk, d, o) = some (.inl (some (ev_I (ms_tick t w C R B S 14 - w 14))), (n, lk, d', o)) ∧ FT d d' i ∧ GS d' i (ms_tick t w C R B S) B R C T (τ + 1) ∧ ms_tick t w C R B S 0 = Int32.ofNat S ∧
      ∀ b, b < B → d' 37 0 b = ms_to t (ms_pre t w C B) C R B S b ∧ d' 38 0 b = ms_en (ms_sv t (ms_pre t w C B) C R B S b) := by
  obtain ⟨⟨K, h1⟩, h2⟩ := hs
  obtain ⟨d', K', e1, e2, e3, e4⟩ := ec_tick (n := n) (o := o) hl hi h1 hW.1 hW.2 hT h2 hS hS4
  exact ⟨d', e1, e2, ⟨⟨K', e3⟩, SI_tick hT h2 hτ⟩, by rw [ms_tick_0 hT h2, hS], e4⟩
theorem ec_run (hl : LK lk) {i : Nat} (hi : i < 15) {t w : Nat → Int32} {C B R S T τ k : Nat} (hs : GS d i w B R C T τ) (hW : TW d t T) (hT : TC t B R) (hS : w 0 = Int32.ofNat S) (hS4 : S ≤ 4) (hτ : τ + k ≤ 3000) :
    ∃ d', EV (70, 0, [ev_R 32 0, ev_R 0 i, ev_I (Int32.ofNat k)], [], 0, 0) (n, lk, d, o) = some (.inl (some (ev_I (ms_ticks t w C R B S k 14 - w 14))), (n, lk, d', o)) ∧ FT d d' i ∧ GS d' i (ms_ticks t w C R B S k) B R C T (τ + k) ∧ ms_ticks t w C R B S k 0 = Int32.ofNat S := by
  have loop : ∀ j p τ y (w : Nat → Int32) (d : Nat → Nat → Nat → Int32), p + j = k → GS d i w B R C T τ → TW d t T → w 0 = Int32.ofNat S → τ + j ≤ 3000 →
      ∃ d', EV (70, 5, [ev_R 32 0, ev_R 0 i, ev_I (Int32.ofNat k), ev_I y, ev_I (Int32.ofNat p)], [], 0, 0) (n, lk, d, o) = some (.inl (some (ev_I (y + (ms_ticks t w C R B S j 14 - w 14)))), (n, lk, d', o)) ∧ FT d d' i ∧ GS d' i (ms_ticks t w C R B S j) B R C T (τ + j) ∧ ms_ticks t w C R B S j 0 = Int32.ofNat S := by
    intro j
    induction j with
    | zero =>
      intro p τ y w d hp hs hW hS hτ
      refine ⟨d, ?_, FT_r d i, hs, hS⟩
      refine EV_bk (k := 400) ?_
      have e0 : y + (ms_ticks t w C R B S 0 14 - w 14) = y := by
        show y + (w 14 - w 14) = y
        rw [Int32.sub_self, Int32.add_zero]
      rw [bk_70_5, if_neg (fun z => by have := (ni_lt (by omega) (by omega)).mp z; omega), e0]
    | succ j ih =>
      intro p τ y w d hp hs hW hS hτ
      have hlt : Int32.ofNat p < Int32.ofNat k := (ni_lt (by omega) (by omega)).mpr (by omega)
      obtain ⟨d1, e1, f1, s1, S1, -⟩ := ec_tickG (n := n) (o := o) hl hi hs hW hT hS hS4 (by omega)
      obtain ⟨d', e2, f2, s2, S2⟩ := ih (p + 1) (τ + 1) (y + (ms_tick t w C R B S 14 - w 14)) (ms_tick t w C R B S) d1 (by omega) s1 (TW_FT hW f1) S1 (by omega)
      refine ⟨d', ?_, FT_t f1 f2, ?_, S2⟩
      · refine EV_bk (k := 400) ?_
        rw [bk_70_5, if_pos hlt, e1]
        simp only [ev_bi, ni_1]
        rw [e2, i32_tel]
        rfl
      · rw [show τ + (j + 1) = τ + 1 + j by omega]
        exact s2
  obtain ⟨d', e1, e2, e3, e4⟩ := loop k 0 τ 0 w d (by omega) hs hW hS hτ
  refine ⟨d', ?_, e2, e3, e4⟩
  refine EV_bk (k := 400) ?_
  rw [Int32.zero_add] at e1
  rw [bk_70_0]
  exact e1
theorem ec_lossTime (hl : LK lk) {t w : Nat → Int32} {C B R S T τ k : Nat} (hs : GS d 2 w B R C T τ) (hW : TW d t T) (hT : TC t B R) (hS : w 0 = Int32.ofNat S) (hS4 : S ≤ 4) (hτ : τ + k ≤ 3000) :
    ∃ d', EV (122, 0, [ev_R 27 0, ev_I (Int32.ofNat k)], [], 0, 0) (n, lk, d, o) = some (.inl (some (ev_I (ms_tl t C R B S k w))), (n, lk, d', o)) ∧ FT d d' 2 := by
  have loop : ∀ j p τ (w : Nat → Int32) (d : Nat → Nat → Nat → Int32), p + j = k → GS d 2 w B R C T τ → TW d t T → w 0 = Int32.ofNat S → τ + j ≤ 3000 →
      ∃ d', EV (122, 2, [ev_R 27 0, ev_I (Int32.ofNat k), ev_I (Int32.ofNat p)], [], 0, 0) (n, lk, d, o) = some (.inl (some (ev_I (ms_tl t C R B S j w))), (n, lk, d', o)) ∧ FT d d' 2 := by
    intro j
    induction j with
    | zero =>
      intro p τ w d hp hs hW hS hτ
      refine ⟨d, ?_, FT_r d 2⟩
      refine EV_bk (k := 400) ?_
      rw [bk_122_2, if_neg (fun z => by have := (ni_lt (by omega) (by omega)).mp z; omega)]
      rfl
    | succ j ih =>
      intro p τ w d hp hs hW hS hτ
      have hlt : Int32.ofNat p < Int32.ofNat k := (ni_lt (by omega) (by omega)).mpr (by omega)
      obtain ⟨d1, e1, f1, s1, S1, -⟩ := ec_tickG (n := n) (o := o) hl (i := 2) (by decide) hs hW hT hS hS4 (by omega)
      have hst : ms_tl t C R B S (j + 1) w = if ms_tick t w C R B S 14 - w 14 ≤ 0 then ms_tl t C R B S j (ms_tick t w C R B S) else w 8 := rfl
      by_cases z : ms_tick t w C R B S 14 - w 14 ≤ 0
      · rw [if_pos z] at hst
        obtain ⟨d', e2, f2⟩ := ih (p + 1) (τ + 1) (ms_tick t w C R B S) d1 (by omega) s1 (TW_FT hW f1) S1 (by omega)
        refine ⟨d', ?_, FT_t f1 f2⟩
        refine EV_bk (k := 400) ?_
        rw [bk_122_2, if_pos hlt]
        simp only [hl 27 0 2 rfl (by decide) (by decide), hl 27 0 5 rfl (by decide) (by decide), cond_true]
        rw [e1]
        simp only [ev_bi, ni_1]
        rw [if_pos z, hst]
        exact e2
      · rw [if_neg z] at hst
        refine ⟨d1, ?_, f1⟩
        obtain ⟨⟨K, h1⟩, -⟩ := hs
        refine EV_bk (k := 400) ?_
        rw [bk_122_2, if_pos hlt]
        simp only [hl 27 0 2 rfl (by decide) (by decide), hl 27 0 5 rfl (by decide) (by decide), cond_true]
        rw [e1]
        simp only [ev_bi]
        rw [if_neg z, hst, cs_tm h1]
  obtain ⟨d', e1, e2⟩ := loop k 0 τ w d (by omega) hs hW hS hτ
  refine ⟨d', ?_, e2⟩
  refine EV_bk (k := 400) ?_
  rw [bk_122_0]
  exact e1
theorem ec_waitLoop (hl : LK lk) {t w : Nat → Int32} {C B R S T τ q : Nat} (hs : GS d 2 w B R C T τ) (hW : TW d t T) (hT : TC t B R) (hS : w 0 = Int32.ofNat S) (hS4 : S ≤ 4) (hτ : τ + 300 ≤ 3000) (hq : q < C) :
    ∃ d', EV (101, 18, [ev_R 27 0, ev_I (Int32.ofNat q), ev_I 0], [], 1, 6) (n, lk, d, o) = some (.inl (some (ev_I (ms_wo t C R B S q 300 w))), (n, lk, d', o)) ∧ FT d d' 2 := by
  have L8 : lk 0 2 8 = true := hl 0 2 8 rfl (by decide) (by decide)
  have L5 : lk 17 2 5 = true := hl 17 2 5 rfl (by decide) (by decide)
  have L6 : lk 17 2 6 = true := hl 17 2 6 rfl (by decide) (by decide)
  have L4 : lk 17 2 4 = true := hl 17 2 4 rfl (by decide) (by decide)
  have loop : ∀ j p τ (w : Nat → Int32) (d : Nat → Nat → Nat → Int32), p + j = 300 → GS d 2 w B R C T τ → TW d t T → w 0 = Int32.ofNat S → τ + j ≤ 3000 →
      ∃ d', EV (101, 18, [ev_R 27 0, ev_I (Int32.ofNat q), ev_I (Int32.ofNat p)], [], 1, 6) (n, lk, d, o) = some (.inl (some (ev_I (ms_wo t C R B S q j w))), (n, lk, d', o)) ∧ FT d d' 2 := by
    intro j
    induction j with
    | zero =>
      intro p τ w d hp hs hW hS hτ
      obtain ⟨⟨K, h1⟩, -⟩ := hs
      have h40 := cs_C h1
      refine ⟨d, ?_, FT_r d 2⟩
      refine EV_bk (k := 400) ?_
      rw [bk_101_18, if_neg (fun z => by have := (ni_lt (b := 300) (by omega) (by omega)).mp z; omega)]
      simp only [hl 27 0 5 rfl (by decide) (by decide), L8, L5, L6, L4, cond_true, ni_in (n := q) (N := 40) (by omega) (by omega), ni_c (n := q) (by omega), cs_20 h1 hq, cs_21 h1 hq, cs_22 h1 hq]
      unfold ms_wo
      by_cases z : w (375 + 6 * q + 3) = 2
      · rw [if_pos z, if_pos z]
      · rw [if_neg z, if_neg z]
    | succ j ih =>
      intro p τ w d hp hs hW hS hτ
      have hlt : Int32.ofNat p < 300 := (ni_lt (b := 300) (by omega) (by omega)).mpr (by omega)
      have hst : ms_wo t C R B S q (j + 1) w = if w (375 + 6 * q + 3) = 2 then w (375 + 6 * q + 4) - w (375 + 6 * q + 2) else ms_wo t C R B S q j (ms_tick t w C R B S) := rfl
      obtain ⟨⟨K, h1⟩, h2⟩ := id hs
      have h40 := cs_C h1
      by_cases z : w (375 + 6 * q + 3) = 2
      · rw [if_pos z] at hst
        refine ⟨d, ?_, FT_r d 2⟩
        refine EV_bk (k := 400) ?_
        rw [bk_101_18, if_pos hlt]
        simp only [hl 27 0 5 rfl (by decide) (by decide), L8, L5, L6, L4, cond_true, ni_in (n := q) (N := 40) (by omega) (by omega), ni_c (n := q) (by omega), cs_20 h1 hq, cs_21 h1 hq, cs_22 h1 hq]
        rw [if_pos z, if_pos z, hst]
      · rw [if_neg z] at hst
        obtain ⟨d1, e1, f1, s1, S1, -⟩ := ec_tickG (n := n) (o := o) hl (i := 2) (by decide) hs hW hT hS hS4 (by omega)
        obtain ⟨d', e2, f2⟩ := ih (p + 1) (τ + 1) (ms_tick t w C R B S) d1 (by omega) s1 (TW_FT hW f1) S1 (by omega)
        refine ⟨d', ?_, FT_t f1 f2⟩
        refine EV_bk (k := 400) ?_
        rw [bk_101_18, if_pos hlt]
        simp only [hl 27 0 5 rfl (by decide) (by decide), hl 27 0 2 rfl (by decide) (by decide), L8, L5, L6, L4, cond_true, ni_in (n := q) (N := 40) (by omega) (by omega), ni_c (n := q) (by omega), cs_20 h1 hq, cs_21 h1 hq, cs_22 h1 hq]
        rw [if_neg z, e1]
        simp only [ev_bi, ni_1]
        rw [hst]
        exact e2
  exact loop 300 0 τ w d (by omega) hs hW hS hτ
end EC25
