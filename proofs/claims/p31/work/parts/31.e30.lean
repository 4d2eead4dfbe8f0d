/-! THE PROGRAM AGAINST THE REFERENCE, 16: wishes are granted -/
theorem ni_e1 {a : Nat} (ha : a < 2147483648) : (Int32.ofNat a = 1) ↔ a = 1 := ni_eq (b := 1) ha (by omega)
theorem i32_lt {x y : Int32} : (x < y) ↔ x.toInt < y.toInt := Int32.lt_iff_toInt_lt
theorem i32_le {x y : Int32} : (x ≤ y) ↔ x.toInt ≤ y.toInt := Int32.le_iff_toInt_le
def ms_small (x : Int32) : Prop := -4000 ≤ x.toInt ∧ x.toInt ≤ 4000
theorem ms_rank_t {t w : Nat → Int32} {wk wi : Nat → Nat} {b : Nat} (h7 : wi b < 7) (h1 : ms_small (ms_rem t w b (wk b))) (h2 : ms_small (w (19 + 9 * b + 0))) :
    (ms_rank t w wk wi b).toInt = 10000 * (wi b : Int) + (if wi b = 1 then (ms_rem t w b (wk b)).toInt else -(w (19 + 9 * b + 0)).toInt) := by
  obtain ⟨a1, a2⟩ := h1
  obtain ⟨a3, a4⟩ := h2
  have e1 : (10000 * Int32.ofNat (wi b)).toInt = 10000 * (wi b : Int) := by
    have c : (10000 : Int32).toInt = 10000 := by decide
    rw [i32_mul, c, ni_t (by omega)] <;> rw [c, ni_t (by omega)] <;> omega
  unfold ms_rank
  by_cases z : wi b = 1
  · rw [if_pos z, if_pos z, i32_add (by omega) (by omega), e1]
  · have e2 := i32_neg (x := w (19 + 9 * b + 0)) (by omega)
    rw [if_neg z, if_neg z, i32_add (by omega) (by omega), e1, e2]
theorem ms_rank_lt {t w : Nat → Int32} {wk wi : Nat → Nat} {b f : Nat} (h7 : wi b < 7) (h7' : wi f < 7) (h1 : ms_small (ms_rem t w b (wk b))) (h2 : ms_small (w (19 + 9 * b + 0))) (h1' : ms_small (ms_rem t w f (wk f))) (h2' : ms_small (w (19 + 9 * f + 0))) :
    (ms_rank t w wk wi b < ms_rank t w wk wi f) ↔ (if wi b = wi f then (if wi b = 1 then ms_rem t w b (wk b) < ms_rem t w f (wk f) else w (19 + 9 * f + 0) < w (19 + 9 * b + 0)) else wi b < wi f) := by
  rw [i32_lt, ms_rank_t h7 h1 h2, ms_rank_t h7' h1' h2']
  obtain ⟨a1, a2⟩ := h1
  obtain ⟨a3, a4⟩ := h2
  obtain ⟨a5, a6⟩ := h1'
  obtain ⟨a7, a8⟩ := h2'
  by_cases e : wi b = wi f
  · rw [if_pos e, ← e]
    by_cases z : wi b = 1
    · rw [if_pos z, if_pos z, if_pos z, i32_lt]
      omega
    · rw [if_neg z, if_neg z, if_neg z, i32_lt]
      omega
  · rw [if_neg e]
    by_cases z : wi b = 1
    · rw [if_pos z, if_neg (by omega)]
      omega
    · by_cases z' : wi f = 1
      · rw [if_neg z, if_pos z']
        omega
      · rw [if_neg z, if_neg z']
        omega
theorem WG.bst {t w w' : Nat → Int32} (h : WG w w') {wk wi : Nat → Nat} {gr : Nat → Bool} : ∀ k, ms_bst t w' wk wi gr k = ms_bst t w wk wi gr k
  | 0 => rfl
  | k + 1 => by
    unfold ms_bst
    rw [h.bst k]
    cases ms_bst t w wk wi gr k with
    | none => rfl
    | some f =>
      simp only []
      rw [h.rank, h.rank]
theorem ms_gr_stop {t w : Nat → Int32} {wk wi : Nat → Nat} {B s : Nat} (h : ms_bst t w wk wi (ms_gr t w wk wi B s) B = none) : ∀ j, ms_gr t w wk wi B (s + j) = ms_gr t w wk wi B s
  | 0 => rfl
  | j + 1 => by
    have ih := ms_gr_stop h j
    show (match ms_bst t w wk wi (ms_gr t w wk wi B (s + j)) B with
      | none => ms_gr t w wk wi B (s + j)
      | some k => fun b => if b = k then true else ms_gr t w wk wi B (s + j) b) = _
    rw [ih, h]
section EC12
variable {n : Nat} {lk : Nat → Nat → Nat → Bool} {d : Nat → Nat → Nat → Int32} {o : ev_W}
theorem ec_rfr {k : Nat} (hk : k < 7) {μ : ev_M} : EV (78, 0, [ev_I (Int32.ofNat k)], [], 0, 0) μ = some (.inl (some (ev_I (if ms_rf k then 1 else 0))), μ) := by
  obtain ⟨n, lk, d, o⟩ := μ
  refine EV_bk (k := 400) ?_
  rw [bk_78_0]
  match k, hk with
  | 0, _ => rfl
  | 1, _ => rfl
  | 2, _ => rfl
  | 3, _ => rfl
  | 4, _ => rfl
  | 5, _ => rfl
  | 6, _ => rfl
theorem ec_svc {k : Nat} (hk : k < 7) {μ : ev_M} : EV (79, 0, [ev_I (Int32.ofNat k)], [], 0, 0) μ = some (.inl (some (ev_I (if k = 2 ∨ k = 4 then 1 else 0))), μ) := by
  obtain ⟨n, lk, d, o⟩ := μ
  refine EV_bk (k := 400) ?_
  rw [bk_79_0]
  match k, hk with
  | 0, _ => rfl
  | 1, _ => rfl
  | 2, _ => rfl
  | 3, _ => rfl
  | 4, _ => rfl
  | 5, _ => rfl
  | 6, _ => rfl
/-- wishes and how little remains, as the ticker holds them -/
def ms_Q (d : Nat → Nat → Nat → Int32) (t w : Nat → Int32) (wk wi : Nat → Nat) (B : Nat) : Prop :=
  ∀ b, b < B → wi b < 7 ∧ w (19 + 9 * b + 6) = Int32.ofNat (wi b) ∧ d 35 0 b = ms_rem t w b (wk b) ∧ ms_small (ms_rem t w b (wk b)) ∧ ms_small (w (19 + 9 * b + 0))
theorem ec_isAhead (hl : LK lk) {i : Nat} (hi : i < 15) {t w : Nat → Int32} {C K B b f : Nat} {wk wi : Nat → Nat} (hs : CS d i w C K) (hQ : ms_Q d t w wk wi B) (h4 : B ≤ 4) (hb : b < B) (hf : f < B) :
    EV (82, 0, [ev_R 32 0, ev_R 0 i, ev_I (Int32.ofNat b), ev_I (Int32.ofNat f)], [], 0, 0) (n, lk, d, o) = some (.inl (some (ev_I (if ms_rank t w wk wi b < ms_rank t w wk wi f then 1 else 0))), (n, lk, d, o)) := by
  obtain ⟨q1, q2, q3, q4, q5⟩ := hQ b hb
  obtain ⟨p1, p2, p3, p4, p5⟩ := hQ f hf
  have hr := ms_rank_lt q1 p1 q4 q5 p4 p5
  have g1 := cs_9 hs (b := b) (by omega)
  have g2 := cs_9 hs (b := f) (by omega)
  rw [q2] at g1
  rw [p2] at g2
  refine EV_bk (k := 400) ?_
  rw [bk_82_0]
  simp only [hl 0 i 6 rfl hi (by decide), hl 3 i 5 rfl hi (by decide), hl 3 i 0 rfl hi (by decide), hl 32 0 3 rfl (by decide) (by decide), cond_true, ni_in (n := b) (N := 4) (by omega) (by omega), ni_c (n := b) (by omega), ni_in (n := f) (N := 4) (by omega) (by omega), ni_c (n := f) (by omega), g1, g2, q3, p3, cs_4 hs (b := b) (by omega), cs_4 hs (b := f) (by omega)]
  by_cases e : wi b = wi f
  · rw [if_pos e] at hr
    rw [if_pos ((ni_eq (by omega) (by omega)).mpr e)]
    by_cases z : wi b = 1
    · rw [if_pos z] at hr
      rw [if_pos ((ni_e1 (by omega)).mpr z)]
      by_cases y : ms_rem t w b (wk b) < ms_rem t w f (wk f)
      · rw [if_pos y, if_pos (hr.mpr y)]
      · rw [if_neg y, if_neg (fun x => y (hr.mp x))]
    · rw [if_neg z] at hr
      rw [if_neg (fun x => z ((ni_e1 (by omega)).mp x))]
      by_cases y : w (19 + 9 * f + 0) < w (19 + 9 * b + 0)
      · rw [if_neg (Int32.not_le.mpr y), if_pos (hr.mpr y)]
      · rw [if_pos (Int32.not_lt.mp y), if_neg (fun x => y (hr.mp x))]
  · rw [if_neg e] at hr
    rw [if_neg (fun x => e ((ni_eq (by omega) (by omega)).mp x))]
    by_cases y : wi b < wi f
    · rw [if_pos ((ni_lt (by omega) (by omega)).mpr y), if_pos (hr.mpr y)]
    · rw [if_neg (fun x => y ((ni_lt (by omega) (by omega)).mp x)), if_neg (fun x => y (hr.mp x))]
theorem ec_first (hl : LK lk) {i : Nat} (hi : i < 15) {t w : Nat → Int32} {C K B : Nat} {wk wi : Nat → Nat} {gr : Nat → Bool} (hs : CS d i w C K) (hL : CL d 1 t) (hB : t 0 = Int32.ofNat B) (h4 : B ≤ 4) (hQ : ms_Q d t w wk wi B) (hg : ∀ b, b < B → w (19 + 9 * b + 7) = ms_b01 (gr b)) :
    EV (81, 0, [ev_R 32 0, ev_R 0 i], [], 0, 0) (n, lk, d, o) = some (.inl (some (ev_I (ms_en (ms_bst t w wk wi gr B)))), (n, lk, d, o)) := by
  have loop : ∀ j b, b + j = B → EV (81, 4, [ev_R 32 0, ev_R 0 i, ev_I (ms_en (ms_bst t w wk wi gr b)), ev_I (Int32.ofNat b)], [], 0, 0) (n, lk, d, o) = some (.inl (some (ev_I (ms_en (ms_bst t w wk wi gr B)))), (n, lk, d, o)) := by
    intro j
    induction j with
    | zero =>
      intro b hb
      refine EV_bk (k := 400) ?_
      rw [bk_81_4, hl 32 0 0 rfl (by decide) (by decide), cond_true, hL.1, hB, if_neg (fun z => by have := (ni_lt (by omega) (by omega)).mp z; omega), show b = B by omega]
    | succ j ih =>
      intro b hb
      have hlt : Int32.ofNat b < Int32.ofNat B := (ni_lt (by omega) (by omega)).mpr (by omega)
      have hb4 : b < 4 := by omega
      have e := ih (b + 1) (by omega)
      obtain ⟨q1, q2, q3, q4, q5⟩ := hQ b (by omega)
      have g9 := cs_9 hs hb4
      rw [q2] at g9
      have g10 := cs_10 hs hb4
      rw [hg b (by omega)] at g10
      have hst : ms_bst t w wk wi gr (b + 1) = if ms_rf (wi b) ∧ gr b = false then (match ms_bst t w wk wi gr b with
        | none => some b
        | some f => if ms_rank t w wk wi b < ms_rank t w wk wi f then some b else some f) else ms_bst t w wk wi gr b := rfl
      refine EV_bk (k := 400) ?_
      rw [bk_81_4, hl 32 0 0 rfl (by decide) (by decide), cond_true, hL.1, hB, if_pos hlt]
      simp only [hl 0 i 6 rfl hi (by decide), hl 3 i 5 rfl hi (by decide), cond_true, ni_in (n := b) (N := 4) (by omega) (by omega), ni_c (n := b) (by omega), g9]
      rw [ec_rfr q1]
      simp only [ev_bi]
      by_cases z : ms_rf (wi b)
      · rw [if_pos z, if_neg (by decide)]
        simp only [hl 0 i 6 rfl hi (by decide), hl 3 i 6 rfl hi (by decide), cond_true, g10]
        cases hgb : gr b with
        | true =>
          rw [if_neg (fun x => by rw [hgb] at x; exact absurd x.2 (by decide))] at hst
          rw [if_neg (by decide), ni_1, ← hst]
          exact e
        | false =>
          rw [if_pos ⟨z, hgb⟩] at hst
          rw [if_pos (by decide)]
          cases hf : ms_bst t w wk wi gr b with
          | none =>
            rw [hf] at hst
            rw [hst] at e
            rw [if_pos (by decide), ni_1]
            exact e
          | some f =>
            have hfb := ms_bst_lt hf
            rw [hf] at hst
            simp only [] at hst
            rw [if_neg (show ¬ ms_en (some f) = -1 from ms_en_ne (by omega))]
            have ha := ec_isAhead (n := n) (o := o) hl hi hs hQ h4 (b := b) (f := f) (by omega) (by omega)
            have ha' : EV (82, 0, [ev_R 32 0, ev_R 0 i, ev_I (Int32.ofNat b), ev_I (ms_en (some f))], [], 0, 0) (n, lk, d, o) = some (.inl (some (ev_I (if ms_rank t w wk wi b < ms_rank t w wk wi f then 1 else 0))), (n, lk, d, o)) := ha
            rw [ha']
            simp only [ev_bi]
            by_cases y : ms_rank t w wk wi b < ms_rank t w wk wi f
            · rw [if_pos y] at hst
              rw [hst] at e
              rw [if_pos y, if_neg (by decide), ni_1]
              exact e
            · rw [if_neg y] at hst
              rw [hst] at e
              rw [if_neg y, if_pos rfl, ni_1]
              exact e
      · rw [if_neg (fun x => z x.1)] at hst
        rw [if_neg z, if_pos rfl, ni_1, ← hst]
        exact e
  refine EV_bk (k := 400) ?_
  rw [bk_81_0]
  exact loop B 0 (by omega)
/-- the state with wishes and grants told -/
def ms_wg (t w : Nat → Int32) (wk wi : Nat → Nat) (B s : Nat) : Nat → Int32 := ms_fs 7 (ms_fs 6 w (fun b => Int32.ofNat (wi b)) B) (fun b => ms_b01 (ms_gr t w wk wi B s b)) B
theorem WG_wg {t w : Nat → Int32} {wk wi : Nat → Nat} {B s : Nat} (h4 : B ≤ 4) : WG w (ms_wg t w wk wi B s) := WG_f7 (WG_f6 (WG_r w) h4) h4
theorem ms_wg6 {t w : Nat → Int32} {wk wi : Nat → Nat} {B s b : Nat} (hb : b < B) : ms_wg t w wk wi B s (19 + 9 * b + 6) = Int32.ofNat (wi b) := by
  unfold ms_wg
  rw [ms_fs_n (fun b hb => by omega), ms_fs_at (by omega) hb]
theorem ms_wg7 {t w : Nat → Int32} {wk wi : Nat → Nat} {B s b : Nat} (hb : b < B) : ms_wg t w wk wi B s (19 + 9 * b + 7) = ms_b01 (ms_gr t w wk wi B s b) := by
  unfold ms_wg
  rw [ms_fs_at (by omega) hb]
theorem ec_grants (hl : LK lk) {i : Nat} (hi : i < 15) {t w : Nat → Int32} {C K B S : Nat} {wk wi : Nat → Nat} (hs : CS d i (ms_fs 6 w (fun b => Int32.ofNat (wi b)) B) C K) (hL : CL d 1 t) (hB : t 0 = Int32.ofNat B) (h4 : B ≤ 4) (hS : w 0 = Int32.ofNat S) (hS4 : S ≤ 4)
    (hQ : ∀ b, b < B → wi b < 7 ∧ d 35 0 b = ms_rem t w b (wk b) ∧ ms_small (ms_rem t w b (wk b)) ∧ ms_small (w (19 + 9 * b + 0))) :
    ∃ d', EV (80, 0, [ev_R 32 0, ev_R 0 i], [], 0, 0) (n, lk, d, o) = some (.inl none, (n, lk, d', o)) ∧ FR d d' i ∧ CS d' i (ms_wg t w wk wi B S) C K := by
  have slots : ∀ j s (d : Nat → Nat → Nat → Int32), s + j = S → CL d 1 t → (∀ b, b < B → wi b < 7 ∧ d 35 0 b = ms_rem t w b (wk b) ∧ ms_small (ms_rem t w b (wk b)) ∧ ms_small (w (19 + 9 * b + 0))) → CS d i (ms_wg t w wk wi B s) C K →
      ∃ d', EV (80, 50, [ev_R 32 0, ev_R 0 i, ev_I (Int32.ofNat s)], [], 0, 0) (n, lk, d, o) = some (.inl none, (n, lk, d', o)) ∧ FR d d' i ∧ CS d' i (ms_wg t w wk wi B S) C K := by
    intro j
    induction j with
    | zero =>
      intro s d hj hL hQ hs
      have e : s = S := by omega
      subst e
      refine ⟨d, ?_, FR_r d i, hs⟩
      have g0 : d 1 i 0 = w 0 := (cs_1 hs (by decide)).trans ((WG_wg h4).lo (by decide))
      refine EV_bk (k := 400) ?_
      rw [bk_80_50, hl 0 i 4 rfl hi (by decide), cond_true, g0, hS, if_neg (fun z => by have := (ni_lt (by omega) (by omega)).mp z; omega)]
    | succ j ih =>
      intro s d hj hL hQ hs
      have hlt : Int32.ofNat s < Int32.ofNat S := (ni_lt (by omega) (by omega)).mpr (by omega)
      have hw := WG_wg (t := t) (w := w) (wk := wk) (wi := wi) (B := B) (s := s) h4
      have g0 : d 1 i 0 = w 0 := (cs_1 hs (by decide)).trans (hw.lo (by decide))
      have hf := ec_first (n := n) (o := o) (gr := ms_gr t w wk wi B s) hl hi hs hL hB h4 (wk := wk) (wi := wi) (fun b hb => by
        obtain ⟨y1, y2, y3, y4⟩ := hQ b hb
        refine ⟨y1, ms_wg6 hb, ?_, ?_, ?_⟩
        · rw [hw.rem]; exact y2
        · rw [hw.rem]; exact y3
        · rw [hw.b (by decide)]; exact y4) (fun b hb => ms_wg7 hb)
      rw [hw.bst] at hf
      have hst : ms_gr t w wk wi B (s + 1) = match ms_bst t w wk wi (ms_gr t w wk wi B s) B with
        | none => ms_gr t w wk wi B s
        | some k => fun b => if b = k then true else ms_gr t w wk wi B s b := rfl
      cases hk : ms_bst t w wk wi (ms_gr t w wk wi B s) B with
      | none =>
        rw [hk] at hf
        have e := ms_gr_stop hk (j + 1)
        rw [hj] at e
        refine ⟨d, ?_, FR_r d i, ?_⟩
        · refine EV_bk (k := 400) ?_
          rw [bk_80_50, hl 0 i 4 rfl hi (by decide), cond_true, g0, hS, if_pos hlt, hf]
          simp only [ev_bi]
          rw [if_pos (by decide)]
        · unfold ms_wg
          rw [e]
          exact hs
      | some k =>
        have hkB := ms_bst_lt hk
        rw [hk] at hf hst
        simp only [] at hst
        have c1 := CS_granted (k := k) (v := 1) hs (by omega)
        unfold ms_wg at c1
        rw [ms_fsu (by omega) hkB, ms_fs_c (g := fun b => ms_b01 (ms_gr t w wk wi B (s + 1) b)) (fun b hb => by
          rw [hst]
          by_cases z : b = k
          · simp only [if_pos z]; rfl
          · simp only [if_neg z])] at c1
        have fr : FR d (ev_u3 d 10 i k 1) i := FR_u3 (by decide)
        obtain ⟨d', e1, e2, e3⟩ := ih (s + 1) (ev_u3 d 10 i k 1) (by omega) (FT_CL (FR_FT fr) hL) (fun b hb => by
          rw [u3n (by decide)]; exact hQ b hb) c1
        refine ⟨d', ?_, FR_t fr e2, e3⟩
        refine EV_bk (k := 400) ?_
        rw [bk_80_50, hl 0 i 4 rfl hi (by decide), cond_true, g0, hS, if_pos hlt, hf]
        have i1 : ev_in (ms_en (some k)) 4 = true := ni_in (n := k) (by omega) (by omega)
        have i2 : (ms_en (some k)).toNatClampNeg = k := ni_c (n := k) (by omega)
        simp only [ev_bi]
        rw [if_neg (show ¬ ms_en (some k) = -1 from ms_en_ne (by omega))]
        simp only [hl 0 i 6 rfl hi (by decide), hl 3 i 6 rfl hi (by decide), i1, i2, cond_true, ni_1]
        exact e1
  have first : ∀ j b (d : Nat → Nat → Nat → Int32), b + j = B → CL d 1 t → (∀ b, b < B → wi b < 7 ∧ d 35 0 b = ms_rem t w b (wk b) ∧ ms_small (ms_rem t w b (wk b)) ∧ ms_small (w (19 + 9 * b + 0))) → CS d i (ms_fs 7 (ms_fs 6 w (fun b => Int32.ofNat (wi b)) B) (fun b => ms_b01 (ms_g0 wi b)) b) C K →
      ∃ d', EV (80, 2, [ev_R 32 0, ev_R 0 i, ev_I (Int32.ofNat b)], [], 0, 0) (n, lk, d, o) = some (.inl none, (n, lk, d', o)) ∧ FR d d' i ∧ CS d' i (ms_wg t w wk wi B S) C K := by
    intro j
    induction j with
    | zero =>
      intro b d hj hL hQ hs
      have e : b = B := by omega
      subst e
      obtain ⟨d', e1, e2, e3⟩ := slots S 0 d (by omega) hL hQ hs
      refine ⟨d', ?_, e2, e3⟩
      refine EV_bk (k := 400) ?_
      rw [bk_80_2, hl 32 0 0 rfl (by decide) (by decide), cond_true, hL.1, hB, if_neg (fun z => by have := (ni_lt (by omega) (by omega)).mp z; omega)]
      exact e1
    | succ j ih =>
      intro b d hj hL hQ hs
      have hlt : Int32.ofNat b < Int32.ofNat B := (ni_lt (by omega) (by omega)).mpr (by omega)
      have hb4 : b < 4 := by omega
      have g9 : d 9 i b = Int32.ofNat (wi b) := by
        rw [cs_9 hs hb4, ms_fs_n (fun b hb => by omega), ms_fs_at (by omega) (by omega)]
      have c1 := CS_granted (k := b) (v := ms_b01 (ms_g0 wi b)) hs hb4
      rw [ms_fsS (f := fun b => ms_b01 (ms_g0 wi b)) (by omega)] at c1
      have fr : FR d (ev_u3 d 10 i b (ms_b01 (ms_g0 wi b))) i := FR_u3 (by decide)
      obtain ⟨d', e1, e2, e3⟩ := ih (b + 1) (ev_u3 d 10 i b (ms_b01 (ms_g0 wi b))) (by omega) (FT_CL (FR_FT fr) hL) (fun b hb => by
          rw [u3n (by decide)]; exact hQ b hb) c1
      refine ⟨d', ?_, FR_t fr e2, e3⟩
      refine EV_bk (k := 400) ?_
      rw [bk_80_2, hl 32 0 0 rfl (by decide) (by decide), cond_true, hL.1, hB, if_pos hlt]
      simp only [hl 0 i 6 rfl hi (by decide), hl 3 i 6 rfl hi (by decide), hl 3 i 5 rfl hi (by decide), cond_true, ni_in (n := b) (N := 4) (by omega) (by omega), ni_c (n := b) (by omega), g9]
      rw [ec_svc (hQ b (by omega)).1]
      simp only [ev_bi]
      by_cases z : wi b = 2 ∨ wi b = 4
      · have ez : ms_b01 (ms_g0 wi b) = 1 := by
          unfold ms_g0 ms_b01
          rw [if_pos (by simpa using z)]
        rw [ez] at e1
        rw [if_pos z, if_neg (by decide), ni_1]
        exact e1
      · have ez : ms_b01 (ms_g0 wi b) = 0 := by
          unfold ms_g0 ms_b01
          rw [if_neg (by simpa using z)]
        rw [ez] at e1
        rw [if_neg z, if_pos rfl, ni_1]
        exact e1
  obtain ⟨d', e1, e2, e3⟩ := first B 0 d (by omega) hL hQ (by rw [ms_fs0]; exact hs)
  refine ⟨d', ?_, e2, e3⟩
  refine EV_bk (k := 400) ?_
  rw [bk_80_0]
  exact e1
end EC12
