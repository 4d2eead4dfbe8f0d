/-! THE PROGRAM AGAINST THE REFERENCE, 22: rows and banks grow alike -/
def ms_cv (s : Option Nat) (x : Int32) : Int32 := if s = none ∧ 0 < x then x + -1 else x
/-- what of the touching is to come at row r of bank b -/
def ms_X (b r B : Nat) : Nat → Nat → Prop := fun b' r' => b' < B ∧ ((b' = b ∧ r ≤ r') ∨ b < b')
def ms_RI (U W to : Nat → Int32) (sv : Nat → Option Nat) (B b r : Nat) (L p8 : Int32) : Prop :=
  (∀ k, k ≠ 14 → (∀ b', b' < b → k ≠ 19 + 9 * b' + 1) → ms_TX to (ms_X b r B) k → U k = W k) ∧ W 14 = U 14 + L ∧ U 8 = p8 ∧ (∀ b', b' < b → W (19 + 9 * b' + 1) = ms_cv (sv b') (U (19 + 9 * b' + 1))) ∧
  ∀ b' r', b' < B → r' < 16 → to b' = Int32.ofNat r' → U (55 + 5 * (16 * b' + r') + 0) = 0 ∧ U (55 + 5 * (16 * b' + r') + 1) = 0
theorem ms_RI_row {t U W to : Nat → Int32} {sv : Nat → Option Nat} {B b r : Nat} {L p8 hot bd : Int32} (h4 : B ≤ 4) (hb : b < B) (hr : r < 16) (h : ms_RI U W to sv B b r L p8) (hbd : ∀ W', W' 8 = p8 → ms_bnd t W' (16 * b + r) hot = bd) :
    ms_RI (if Int32.ofNat r = to b then U else mc_row U (16 * b + r) bd) (ms_ages t W b r (to b) hot) to sv B b (r + 1) (if Int32.ofNat r = to b then L else L + mc_rl U (16 * b + r) bd) p8 := by
  obtain ⟨a1, a2, a3, a4, a5⟩ := h
  unfold ms_ages
  by_cases z : Int32.ofNat r = to b
  · rw [if_pos z, if_pos z, if_pos z.symm]
    obtain ⟨y1, y2⟩ := a5 b r hb hr z.symm
    refine ⟨fun k h14 hh hx => ?_, ?_, a3, fun b' hb' => ?_, a5⟩
    · by_cases k0 : k = 55 + 5 * (16 * b + r) + 0
      · subst k0
        simp (disch := omega) only [u1n, u1s, y1]
      by_cases k1 : k = 55 + 5 * (16 * b + r) + 1
      · subst k1
        simp (disch := omega) only [u1s, y2]
      simp (disch := omega) only [u1n]
      refine a1 k h14 hh (fun b' r' x1 x2 x3 => ?_)
      by_cases e : b' = b ∧ r' = r
      · obtain ⟨e1, e2⟩ := e
        subst e1
        subst e2
        exact ⟨k0, k1⟩
      · refine hx b' r' ⟨x1.1, ?_⟩ x2 x3
        obtain ⟨-, x1⟩ := x1
        omega
    · simp (disch := omega) only [u1n, a2]
    · simp (disch := omega) only [u1n]
      exact a4 b' hb'
  · have z' : ¬ to b = Int32.ofNat r := fun x => z x.symm
    rw [if_neg z, if_neg z, if_neg z']
    have px : ∀ x, x < 5 → ms_TX to (ms_X b r B) (55 + 5 * (16 * b + r) + x) := fun x hx b' r' _ x2 x3 => by
      have : ¬ (b' = b ∧ r' = r) := fun e => by
        obtain ⟨e1, e2⟩ := e
        subst e1
        subst e2
        exact z' x3
      omega
    have u0 : U (55 + 5 * (16 * b + r) + 0) = W (55 + 5 * (16 * b + r) + 0) := a1 _ (by omega) (fun b' _ => by omega) (px 0 (by omega))
    have u1 : U (55 + 5 * (16 * b + r) + 1) = W (55 + 5 * (16 * b + r) + 1) := a1 _ (by omega) (fun b' _ => by omega) (px 1 (by omega))
    have u4 : U (55 + 5 * (16 * b + r) + 4) = W (55 + 5 * (16 * b + r) + 4) := a1 _ (by omega) (fun b' _ => by omega) (px 4 (by omega))
    have w8 : W 8 = p8 := (a1 8 (by omega) (fun b' _ => by omega) (ms_TX_lo (by omega))).symm.trans a3
    have ag8 : ms_age1 W (16 * b + r) 8 = p8 := by
      unfold ms_age1
      rw [u1n (by omega), w8]
    have ag0 : ms_age1 W (16 * b + r) (55 + 5 * (16 * b + r) + 0) = W (55 + 5 * (16 * b + r) + 0) + 1 := by
      unfold ms_age1
      rw [u1s]
    have ag1 : ms_age1 W (16 * b + r) (55 + 5 * (16 * b + r) + 1) = W (55 + 5 * (16 * b + r) + 1) := by
      unfold ms_age1
      rw [u1n (by omega)]
    rw [hbd _ ag8, ag0, ag1]
    have tx : ∀ k, k ≠ 55 + 5 * (16 * b + r) + 0 → k ≠ 55 + 5 * (16 * b + r) + 1 → ms_TX to (ms_X b (r + 1) B) k → ms_TX to (ms_X b r B) k := fun k k0 k1 hx b' r' x1 x2 x3 => by
      by_cases e : b' = b ∧ r' = r
      · obtain ⟨e1, e2⟩ := e
        subst e1
        subst e2
        exact ⟨k0, k1⟩
      · refine hx b' r' ⟨x1.1, ?_⟩ x2 x3
        obtain ⟨-, x1⟩ := x1
        omega
    have tz : ∀ b' r', b' < B → r' < 16 → to b' = Int32.ofNat r' → ¬ (b' = b ∧ r' = r) := fun b' r' _ _ x3 e => by
        obtain ⟨e1, e2⟩ := e
        subst e1
        subst e2
        exact z' x3
    have only : (W (55 + 5 * (16 * b + r) + 0) + 1 ≤ bd ∨ ¬ W (55 + 5 * (16 * b + r) + 1) = 0) → ms_RI (ev_u1 U (55 + 5 * (16 * b + r) + 0) (W (55 + 5 * (16 * b + r) + 0) + 1)) (ms_age1 W (16 * b + r)) to sv B b (r + 1) (L + 0) p8 := fun _ => by
      refine ⟨fun k h14 hh hx => ?_, ?_, ?_, fun b' hb' => ?_, fun b' r' y1 y2 y3 => ?_⟩
      · unfold ms_age1
        by_cases k0 : k = 55 + 5 * (16 * b + r) + 0
        · subst k0
          rw [u1s, u1s]
        rw [u1n k0, u1n k0]
        by_cases k1 : k = 55 + 5 * (16 * b + r) + 1
        · subst k1
          exact u1
        exact a1 k h14 hh (tx k k0 k1 hx)
      · unfold ms_age1
        simp (disch := omega) only [u1n, a2, Int32.add_zero]
      · rw [u1n (by omega), a3]
      · unfold ms_age1
        simp (disch := omega) only [u1n]
        exact a4 b' hb'
      · have := tz b' r' y1 y2 y3
        simp (disch := omega) only [u1n]
        exact a5 b' r' y1 y2 y3
    unfold mc_row mc_rl
    rw [u0, u1, u4]
    by_cases h1 : W (55 + 5 * (16 * b + r) + 0) + 1 ≤ bd
    · rw [if_pos h1, if_pos h1, if_neg (fun x => Int32.not_le.mpr x.1 h1)]
      exact only (.inl h1)
    · rw [if_neg h1, if_neg h1]
      by_cases h2 : W (55 + 5 * (16 * b + r) + 1) = 0
      · rw [if_pos h2, if_pos h2, if_pos ⟨Int32.not_le.mp h1, h2⟩]
        refine ⟨fun k h14 hh hx => ?_, ?_, ?_, fun b' hb' => ?_, fun b' r' y1 y2 y3 => ?_⟩
        · unfold ms_lose ms_age1
          by_cases k0 : k = 55 + 5 * (16 * b + r) + 0
          · subst k0
            simp (disch := omega) only [u1n, u1s]
          by_cases k1 : k = 55 + 5 * (16 * b + r) + 1
          · subst k1
            simp (disch := omega) only [u1n, u1s]
          by_cases k4 : k = 55 + 5 * (16 * b + r) + 4
          · subst k4
            simp (disch := omega) only [u1n, u1s]
          simp (disch := omega) only [u1n]
          exact a1 k h14 hh (tx k k0 k1 hx)
        · unfold ms_lose ms_age1
          simp (disch := omega) only [u1n, u1s, a2, Int32.add_assoc]
        · simp (disch := omega) only [u1n, a3]
        · unfold ms_lose ms_age1
          simp (disch := omega) only [u1n]
          exact a4 b' hb'
        · have := tz b' r' y1 y2 y3
          simp (disch := omega) only [u1n]
          exact a5 b' r' y1 y2 y3
      · rw [if_neg h2, if_neg h2, if_neg (fun x => h2 x.2)]
        exact only (.inr h2)
theorem ms_RI_rows {t U W to : Nat → Int32} {sv : Nat → Option Nat} {B b R : Nat} {L p8 hot : Int32} {bd : Nat → Int32} (h4 : B ≤ 4) (hb : b < B) (h16 : R ≤ 16) (h : ms_RI U W to sv B b 0 L p8) (hbd : ∀ r, r < R → ∀ W', W' 8 = p8 → ms_bnd t W' (16 * b + r) hot = bd (16 * b + r)) :
    ∀ r, r ≤ R → ms_RI (mc_rows U b bd (to b) r) (ms_rows t W b (to b) hot r) to sv B b r (mc_rls U b bd (to b) L r) p8
  | 0, _ => h
  | r + 1, hr => ms_RI_row h4 hb (by omega) (ms_RI_rows h4 hb h16 h hbd r (by omega)) (hbd r (by omega))
theorem ms_RI_banks {t U W to hot : Nat → Int32} {sv : Nat → Option Nat} {B R : Nat} {p8 : Int32} {bd : Nat → Int32} (h4 : B ≤ 4) (h16 : R ≤ 16) (hT : ∀ b r, b < B → r < 16 → to b = Int32.ofNat r → r < R) (h : ms_RI U W to sv B 0 0 0 p8)
    (hbd : ∀ b, b < B → ∀ r, r < R → ∀ W', W' 8 = p8 → ms_bnd t W' (16 * b + r) (hot b) = bd (16 * b + r)) :
    ∀ b, b ≤ B → ms_RI (mc_gw U bd to R b) (ms_grow t W R to hot sv b) to sv B b 0 (mc_gl U bd to R b) p8
  | 0, _ => h
  | b + 1, hb => by
    have ih := ms_RI_rows (t := t) (hot := hot b) h4 (by omega) h16 (ms_RI_banks h4 h16 hT h hbd b (by omega)) (hbd b (by omega)) R (Nat.le_refl R)
    show ms_RI (mc_rows (mc_gw U bd to R b) b bd (to b) R) (ms_cool1 (ms_rows t (ms_grow t W R to hot sv b) b (to b) (hot b) R) b (sv b)) to sv B (b + 1) 0 (mc_rls (mc_gw U bd to R b) b bd (to b) (mc_gl U bd to R b) R) p8
    generalize mc_rows (mc_gw U bd to R b) b bd (to b) R = U1 at *
    generalize ms_rows t (ms_grow t W R to hot sv b) b (to b) (hot b) R = W1 at *
    generalize mc_rls (mc_gw U bd to R b) b bd (to b) (mc_gl U bd to R b) R = L1 at *
    obtain ⟨a1, a2, a3, a4, a5⟩ := ih
    have uh : U1 (19 + 9 * b + 1) = W1 (19 + 9 * b + 1) := a1 _ (by omega) (fun b' _ => by omega) (ms_TX_lo (by omega))
    have tx : ∀ k, ms_TX to (ms_X (b + 1) 0 B) k → ms_TX to (ms_X b R B) k := fun k hx b' r' x1 x2 x3 => by
      refine hx b' r' ⟨x1.1, ?_⟩ x2 x3
      have := hT b' r' x1.1 x2 x3
      obtain ⟨-, x1⟩ := x1
      omega
    have key : ∀ k, ms_cool1 W1 b (sv b) k = if k = 19 + 9 * b + 1 then ms_cv (sv b) (W1 (19 + 9 * b + 1)) else W1 k := fun k => by
      unfold ms_cool1 ms_cv
      by_cases z : sv b = none ∧ 0 < W1 (19 + 9 * b + 1)
      · rw [if_pos z, if_pos z]
        by_cases e : k = 19 + 9 * b + 1
        · subst e
          rw [u1s, if_pos rfl]
        · rw [u1n e, if_neg e]
      · rw [if_neg z, if_neg z]
        by_cases e : k = 19 + 9 * b + 1
        · subst e
          rw [if_pos rfl]
        · rw [if_neg e]
    refine ⟨fun k h14 hh hx => ?_, ?_, a3, fun b' hb' => ?_, a5⟩
    · rw [key, if_neg (hh b (by omega))]
      exact a1 k h14 (fun b' hb' => hh b' (by omega)) (tx k hx)
    · rw [key, if_neg (by omega)]
      exact a2
    · rw [key]
      by_cases e : b' = b
      · subst e
        rw [if_pos rfl, uh]
      · rw [if_neg (by omega)]
        exact a4 b' (by omega)
theorem ms_cools_n {w : Nat → Int32} {sv : Nat → Option Nat} {k : Nat} : ∀ {B : Nat}, (∀ b, b < B → k ≠ 19 + 9 * b + 1) → ms_cools w sv B k = w k
  | 0, _ => rfl
  | B + 1, h => by
    have ih := ms_cools_n (w := w) (sv := sv) (k := k) (B := B) (fun b hb => h b (by omega))
    show ms_cool1 (ms_cools w sv B) B (sv B) k = _
    unfold ms_cool1
    split
    · rw [u1n (h B (by omega)), ih]
    · exact ih
theorem ms_cools_at {w : Nat → Int32} {sv : Nat → Option Nat} {b : Nat} : ∀ {B : Nat}, b < B → ms_cools w sv B (19 + 9 * b + 1) = ms_cv (sv b) (w (19 + 9 * b + 1))
  | 0, h => absurd h (Nat.not_lt_zero _)
  | B + 1, h => by
    show ms_cool1 (ms_cools w sv B) B (sv B) (19 + 9 * b + 1) = _
    unfold ms_cool1
    by_cases e : b = B
    · subst e
      rw [ms_cools_n (k := 19 + 9 * b + 1) (fun b' hb' => by omega)]
      unfold ms_cv
      split
      · rw [u1s]
      · rw [ms_cools_n (k := 19 + 9 * b + 1) (fun b' hb' => by omega)]
    · have ih := ms_cools_at (w := w) (sv := sv) (b := b) (B := B) (by omega)
      split
      · rw [u1n (by omega), ih]
      · exact ih
theorem mc_rows_lo {w bd : Nat → Int32} {b k : Nat} {to : Int32} (hk : k < 55) : ∀ r, mc_rows w b bd to r k = w k
  | 0 => rfl
  | r + 1 => by
    have ih := mc_rows_lo (w := w) (bd := bd) (b := b) (to := to) hk r
    unfold mc_rows
    split
    · exact ih
    · unfold mc_row
      split
      · rw [u1n (by omega), ih]
      · split
        · rw [u1n (by omega), u1n (by omega), u1n (by omega), ih]
        · rw [u1n (by omega), ih]
theorem mc_gw_lo {w bd to : Nat → Int32} {R k : Nat} (hk : k < 55) : ∀ b, mc_gw w bd to R b k = w k
  | 0 => rfl
  | b + 1 => by
    unfold mc_gw
    rw [mc_rows_lo hk, mc_gw_lo hk b]
/-- the program's way through a tick ends where the reference's ends -/
theorem ms_tick_eq {t p V0 : Nat → Int32} {C B R S : Nat} (h4 : B ≤ 4) (h16 : R ≤ 16) (hrow : ∀ q, q < C → ∃ r, r < 16 ∧ p (375 + 6 * q + 1) = Int32.ofNat r) (hT : ∀ b r, b < B → r < 16 → ms_to t p C R B S b = Int32.ofNat r → r < R)
    (h0 : WG p V0) (h0' : ∀ k, (∀ b, b < B → k ≠ 19 + 9 * b + 6 ∧ k ≠ 19 + 9 * b + 7) → V0 k = p k) (h6 : ∀ b, b < B → V0 (19 + 9 * b + 6) = Int32.ofNat (ms_wi t p C R b) ∧ V0 (19 + 9 * b + 7) = ms_b01 (ms_gg t p C R B S b)) :
    (let U := mc_gw (mc_acts V0 (ms_wi t p C R) (ms_sv t p C R B S) (ms_to t p C R B S) B) (fun c => ms_bound t p (c / 16) (c % 16)) (ms_to t p C R B S) R B
     let L := mc_gl (mc_acts V0 (ms_wi t p C R) (ms_sv t p C R B S) (ms_to t p C R B S) B) (fun c => ms_bound t p (c / 16) (c % 16)) (ms_to t p C R B S) R B
     let X := ms_cools (ev_u1 U 14 (U 14 + L)) (ms_sv t p C R B S) B
     let W := ms_end (ms_grow t (ms_acts p (ms_wi t p C R) (ms_gg t p C R B S) (ms_sv t p C R B S) (ms_to t p C R B S) B) R (ms_to t p C R B S) (ms_was p (ms_wi t p C R) (ms_gg t p C R B S) (ms_sv t p C R B S) (ms_to t p C R B S)) (ms_sv t p C R B S) B)
     ev_u1 X 8 (X 8 + 1) = W ∧ W 14 = p 14 + L) := by
  have hTS : ms_TS B (ms_sv t p C R B S) (ms_to t p C R B S) := fun b hb => by
    obtain ⟨y1, y2⟩ := ms_sv_to (t := t) (S := S) (B := B) (b := b) h16 hrow
    exact ⟨y2, fun q hq => (y1 q hq).2⟩
  have ra := ms_RA_acts (p := p) (V0 := V0) (g := ms_gg t p C R B S) h4 hTS h0' h6
  have ra' := ra B (Nat.le_refl B)
  have keep := fun k (hk : ms_KA k) => mc_acts_k (w := V0) (wi := ms_wi t p C R) hTS h4 hk
  have heat : ∀ b, b < B → ∀ b', b' ≤ b → mc_acts V0 (ms_wi t p C R) (ms_sv t p C R B S) (ms_to t p C R B S) b' (19 + 9 * b + 1) = V0 (19 + 9 * b + 1) := fun b hb b' => by
    induction b' with
    | zero => intro _; rfl
    | succ b' ih =>
      intro h
      obtain ⟨t1, t2⟩ := hTS b' (by omega)
      show mc_one (mc_acts V0 (ms_wi t p C R) (ms_sv t p C R B S) (ms_to t p C R B S) b') b' _ _ _ (19 + 9 * b + 1) = _
      rw [mc_one_n t1 t2 (fun r hr => by omega) (fun q hq => by omega) (by omega) (by omega), ih (by omega)]
  have hwas : ∀ b, b < B → ms_was p (ms_wi t p C R) (ms_gg t p C R B S) (ms_sv t p C R B S) (ms_to t p C R B S) b = if ms_hot p b then 1 else 0 := fun b hb => by
    unfold ms_was
    have e3 : ms_acts p (ms_wi t p C R) (ms_gg t p C R B S) (ms_sv t p C R B S) (ms_to t p C R B S) b 3 = p 3 := by
      rw [← (ra b (by omega)).1 3 (fun b' _ _ => by omega) (ms_TX_lo (by omega)), keep 3 (.inl (by omega)) b (by omega), h0.lo (by omega)]
    have eh : ms_acts p (ms_wi t p C R) (ms_gg t p C R B S) (ms_sv t p C R B S) (ms_to t p C R B S) b (20 + 9 * b) = p (20 + 9 * b) := by
      rw [show 20 + 9 * b = 19 + 9 * b + 1 by omega, ← (ra b (by omega)).1 (19 + 9 * b + 1) (fun b' _ _ => by omega) (ms_TX_lo (by omega)), heat b hb b (Nat.le_refl b), h0.b (by omega)]
    have : ms_hot (ms_acts p (ms_wi t p C R) (ms_gg t p C R B S) (ms_sv t p C R B S) (ms_to t p C R B S) b) b ↔ ms_hot p b := by
      unfold ms_hot
      rw [e3, eh]
    by_cases z : ms_hot p b
    · rw [if_pos z, if_pos (this.mpr z)]
    · rw [if_neg z, if_neg (fun x => z (this.mp x))]
  have v8 : mc_acts V0 (ms_wi t p C R) (ms_sv t p C R B S) (ms_to t p C R B S) B 8 = p 8 := by rw [keep 8 (.inl (by omega)) B (Nat.le_refl B), h0.lo (by omega)]
  have start : ms_RI (mc_acts V0 (ms_wi t p C R) (ms_sv t p C R B S) (ms_to t p C R B S) B) (ms_acts p (ms_wi t p C R) (ms_gg t p C R B S) (ms_sv t p C R B S) (ms_to t p C R B S) B) (ms_to t p C R B S) (ms_sv t p C R B S) B 0 0 0 (p 8) := by
    refine ⟨fun k h14 hh hx => ra'.1 k (fun b' x y => by omega) (fun b' r' x1 x2 x3 => hx b' r' ⟨x1, by omega⟩ x2 x3), ?_, v8, fun b' hb' => absurd hb' (Nat.not_lt_zero _), ra'.2⟩
    rw [Int32.add_zero, ← ra'.1 14 (fun b' x y => by omega) (ms_TX_lo (by omega))]
  have fin := ms_RI_banks (t := t) (hot := ms_was p (ms_wi t p C R) (ms_gg t p C R B S) (ms_sv t p C R B S) (ms_to t p C R B S)) (bd := fun c => ms_bound t p (c / 16) (c % 16)) h4 h16 hT start (fun b hb r hr W' h8 => by
    have c8 : ms_cool t W' (16 * b + r) = ms_cool t p (16 * b + r) := by
      unfold ms_cool
      rw [h8]
    rw [hwas b hb]
    unfold ms_bnd ms_bound
    rw [c8]
    rw [show (16 * b + r) / 16 = b by omega, show (16 * b + r) % 16 = r by omega]
    by_cases z : ms_hot p b
    · rw [if_pos z, if_pos z, if_neg (by decide)]
    · rw [if_neg z, if_neg z, if_pos rfl]) B (Nat.le_refl B)
  simp only []
  have u14' : mc_gw (mc_acts V0 (ms_wi t p C R) (ms_sv t p C R B S) (ms_to t p C R B S) B) (fun c => ms_bound t p (c / 16) (c % 16)) (ms_to t p C R B S) R B 14 = p 14 := by
    rw [mc_gw_lo (by omega), keep 14 (.inr (.inl rfl)) B (Nat.le_refl B), h0.lo (by omega)]
  generalize mc_gw (mc_acts V0 (ms_wi t p C R) (ms_sv t p C R B S) (ms_to t p C R B S) B) (fun c => ms_bound t p (c / 16) (c % 16)) (ms_to t p C R B S) R B = U at *
  generalize mc_gl (mc_acts V0 (ms_wi t p C R) (ms_sv t p C R B S) (ms_to t p C R B S) B) (fun c => ms_bound t p (c / 16) (c % 16)) (ms_to t p C R B S) R B = L at *
  generalize ms_grow t (ms_acts p (ms_wi t p C R) (ms_gg t p C R B S) (ms_sv t p C R B S) (ms_to t p C R B S) B) R (ms_to t p C R B S) (ms_was p (ms_wi t p C R) (ms_gg t p C R B S) (ms_sv t p C R B S) (ms_to t p C R B S)) (ms_sv t p C R B S) B = W at *
  obtain ⟨a1, a2, a3, a4, -⟩ := fin
  have nx : ∀ k, ms_TX (ms_to t p C R B S) (ms_X B 0 B) k := fun k b' r' x1 _ _ => by
    obtain ⟨y1, y2⟩ := x1
    omega
  unfold ms_end
  refine ⟨funext fun k => ?_, ?_⟩
  · have w8 : W 8 = U 8 := (a1 8 (by omega) (fun b' _ => by omega) (nx 8)).symm
    by_cases k8 : k = 8
    · subst k8
      rw [u1s, u1s, ms_cools_n (fun b hb => by omega), u1n (by omega), w8]
    rw [u1n k8, u1n k8]
    by_cases kh : ∃ b, b < B ∧ k = 19 + 9 * b + 1
    · obtain ⟨b, hb, e⟩ := kh
      subst e
      rw [ms_cools_at hb, u1n (by omega), a4 b hb]
    · have kh' : ∀ b, b < B → k ≠ 19 + 9 * b + 1 := fun b hb e => kh ⟨b, hb, e⟩
      rw [ms_cools_n kh']
      by_cases k14 : k = 14
      · subst k14
        rw [u1s, a2]
      · rw [u1n k14]
        exact a1 k k14 kh' (nx k)
  · rw [u1n (by omega), a2, u14']
