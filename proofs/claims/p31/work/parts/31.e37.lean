/-! THE PROGRAM AGAINST THE REFERENCE, 23: what every state keeps -/
def TC (t : Nat → Int32) (B R : Nat) : Prop := (t 0 = Int32.ofNat B ∧ t 1 = Int32.ofNat R ∧ 1 ≤ B ∧ B ≤ 4 ∧ 1 ≤ R ∧ R ≤ 16) ∧ (4 ≤ (t 2).toInt ∧ (t 2).toInt ≤ 999) ∧ (1 ≤ (t 3).toInt ∧ (t 3).toInt ≤ 99) ∧ ∀ c, c < 64 → 0 ≤ (t (4 + 2 * c)).toInt ∧ (t (4 + 2 * c)).toInt ≤ 999
def ms_rg (x : Int32) (a b : Int) : Prop := a ≤ x.toInt ∧ x.toInt ≤ b
def SI (w : Nat → Int32) (B R C T τ : Nat) : Prop :=
  (T ≤ C ∧ C ≤ 40 ∧ ∀ q, T ≤ q → q < C → w (375 + 6 * q + 3) ≠ 0) ∧ (∀ q, q < C → (∃ b, b < B ∧ w (375 + 6 * q + 0) = Int32.ofNat b) ∧ ∃ r, r < R ∧ w (375 + 6 * q + 1) = Int32.ofNat r) ∧
  (w 8 = Int32.ofNat τ ∧ τ ≤ 3000) ∧ ((∃ S, S ≤ 4 ∧ w 0 = Int32.ofNat S) ∧ ms_rg (w 1) 1 8 ∧ ms_rg (w 2) 0 8 ∧ ((w 7 = 0 ∨ w 7 = 1) ∧ ms_rg (w 3) 1 99)) ∧
  (∀ b, b < 4 → ms_rg (w (19 + 9 * b + 0)) (-(8 + τ)) (8 + τ)) ∧ (∀ c, c < 64 → ms_rg (w (55 + 5 * c + 0)) 0 τ) ∧
  (∀ b, b < 4 → w (19 + 9 * b + 2) = Int32.ofNat (ms_many w b 2 C)) ∧ ms_rg (w 16) 0 (4 * τ)
theorem ms_many_c {w w' : Nat → Int32} {b : Nat} {st : Int32} : ∀ {n : Nat}, (∀ q, q < n → ((w' (375 + 6 * q + 3) = st ∧ w' (375 + 6 * q + 0) = Int32.ofNat b) ↔ (w (375 + 6 * q + 3) = st ∧ w (375 + 6 * q + 0) = Int32.ofNat b))) → ms_many w' b st n = ms_many w b st n
  | 0, _ => rfl
  | n + 1, h => by
    have ih := ms_many_c (n := n) (fun q hq => h q (by omega))
    have e := h n (by omega)
    unfold ms_many
    rw [ih]
    by_cases c : w (375 + 6 * n + 3) = st ∧ w (375 + 6 * n + 0) = Int32.ofNat b
    · rw [if_pos c, if_pos (e.mpr c)]
    · rw [if_neg c, if_neg (fun z => c (e.mp z))]
theorem ms_many_s {w w' : Nat → Int32} {b q0 : Nat} {st : Int32} (h0 : w' (375 + 6 * q0 + 3) = st ∧ w' (375 + 6 * q0 + 0) = Int32.ofNat b) (h1 : w (375 + 6 * q0 + 3) ≠ st) :
    ∀ {n : Nat}, q0 < n → (∀ q, q < n → q ≠ q0 → ((w' (375 + 6 * q + 3) = st ∧ w' (375 + 6 * q + 0) = Int32.ofNat b) ↔ (w (375 + 6 * q + 3) = st ∧ w (375 + 6 * q + 0) = Int32.ofNat b))) → ms_many w' b st n = ms_many w b st n + 1
  | 0, h, _ => absurd h (Nat.not_lt_zero _)
  | n + 1, hq, h => by
    unfold ms_many
    by_cases e : n = q0
    · subst e
      rw [if_pos h0, if_neg (fun z => h1 z.1), ms_many_c (fun q hq => h q (by omega) (by omega))]
    · have ih := ms_many_s h0 h1 (n := n) (by omega) (fun q hq => h q (by omega))
      have e := h n (by omega) e
      rw [ih]
      by_cases c : w (375 + 6 * n + 3) = st ∧ w (375 + 6 * n + 0) = Int32.ofNat b
      · rw [if_pos c, if_pos (e.mpr c)]
      · rw [if_neg c, if_neg (fun z => c (e.mp z))]
theorem ms_cool_rg {t w : Nat → Int32} {B R c : Nat} (h : TC t B R) : ms_rg (ms_cool t w c) 1 999 := by
  obtain ⟨-, h2, -, -⟩ := h
  unfold ms_cool ms_rg
  by_cases z : 0 < t (4 + 2 * c) ∧ t (4 + 2 * c + 1) ≤ w 8 ∧ t (4 + 2 * c) < t 2
  · rw [if_pos z]
    obtain ⟨z1, -, z2⟩ := z
    rw [i32_lt] at z1 z2
    have : (0 : Int32).toInt = 0 := by decide
    omega
  · rw [if_neg z]
    omega
theorem ms_half_rg {x : Int32} (h : ms_rg x 1 999) : ms_rg (ms_half x) 1 999 := by
  obtain ⟨h1, h2⟩ := h
  have e : (x / 2).toInt = x.toInt / 2 := by
    rw [Int32.toInt_div_of_ne_right _ _ (by decide), show (2 : Int32).toInt = 2 from by decide, Int.tdiv_eq_ediv_of_nonneg (by omega)]
  unfold ms_half ms_rg
  by_cases z : x / 2 < 1
  · rw [if_pos z]
    decide
  · rw [if_neg z]
    rw [i32_lt, show (1 : Int32).toInt = 1 from by decide] at z
    omega
theorem ms_bound_rg {t w : Nat → Int32} {B R b r : Nat} (h : TC t B R) : ms_rg (ms_bound t w b r) 1 999 := by
  unfold ms_bound
  split
  · exact ms_half_rg (ms_cool_rg h)
  · exact ms_cool_rg h
theorem ms_rem_rg {t w : Nat → Int32} {B R b r τ : Nat} (h : TC t B R) (ha : ms_rg (w (55 + 5 * (16 * b + r))) 0 τ) (hτ : τ ≤ 3000) : ms_rg (ms_rem t w b r) (1 - τ) 999 := by
  obtain ⟨a1, a2⟩ := ms_bound_rg (w := w) (b := b) (r := r) h
  obtain ⟨a3, a4⟩ := ha
  unfold ms_rem ms_rg
  rw [i32_sub (by omega) (by omega)]
  omega
/-! the first steps of a tick -/
theorem ms_asked_many {w : Nat → Int32} {b C : Nat} : ∀ n, ms_many (ms_asked w n) b 2 C = ms_many w b 2 C
  | 0 => rfl
  | n + 1 => by
    have ih := ms_asked_many (w := w) (b := b) (C := C) n
    unfold ms_asked
    split
    · rename_i h
      rw [← ih]
      refine ms_many_c (fun q hq => ?_)
      by_cases e : q = n
      · subst e
        rw [ms_come_s, h.1]
        exact ⟨fun z => absurd z.1 (by decide), fun z => absurd z.1 (by decide)⟩
      · rw [ms_come_hi (by omega) (by omega) (by omega), ms_come_hi (by omega) (by omega) (by omega)]
    · exact ih
theorem ms_asked_nz {w : Nat → Int32} {q : Nat} (h : w (375 + 6 * q + 3) ≠ 0) : ∀ n, ms_asked w n (375 + 6 * q + 3) ≠ 0
  | 0 => h
  | n + 1 => by
    have ih := ms_asked_nz (w := w) h n
    unfold ms_asked
    split
    · by_cases e : q = n
      · subst e
        rw [ms_come_s]
        decide
      · rw [ms_come_hi (by omega) (by omega) (by omega)]
        exact ih
    · exact ih
theorem ms_dl_n {w : Nat → Int32} {k : Nat} (h11 : k ≠ 11) : ∀ {B : Nat}, (∀ b, b < B → k ≠ 19 + 9 * b + 0) → ms_dl w B k = w k
  | 0, _ => rfl
  | B + 1, h => by
    show ev_u1 (ev_u1 (ms_dl w B) (19 + 9 * B + 0) _) 11 _ k = _
    rw [u1n h11, u1n (h B (by omega)), ms_dl_n h11 (fun b hb => h b (by omega))]
theorem ms_dl_at {w : Nat → Int32} {b : Nat} : ∀ {B : Nat}, b < B → ms_dl w B (19 + 9 * b + 0) = w (19 + 9 * b + 0) + 1
  | 0, h => absurd h (Nat.not_lt_zero _)
  | B + 1, h => by
    show ev_u1 (ev_u1 (ms_dl w B) (19 + 9 * B + 0) (ms_dl w B (19 + 9 * B + 0) + 1)) 11 _ (19 + 9 * b + 0) = _
    rw [u1n (by omega)]
    by_cases e : b = B
    · subst e
      rw [u1s, ms_dl_n (by omega) (fun b' hb' => by omega)]
    · rw [u1n (by omega), ms_dl_at (by omega)]
theorem ms_debts_n {t w : Nat → Int32} {B k : Nat} (h11 : k ≠ 11) (h : ∀ b, b < B → k ≠ 19 + 9 * b + 0) : ms_debts t w B k = w k := by
  unfold ms_debts
  split
  · rfl
  · split
    · exact ms_dl_n h11 h
    · rfl
theorem ms_debts_at {t w : Nat → Int32} {B b : Nat} : ms_debts t w B (19 + 9 * b + 0) = w (19 + 9 * b + 0) ∨ ms_debts t w B (19 + 9 * b + 0) = w (19 + 9 * b + 0) + 1 := by
  unfold ms_debts
  split
  · exact .inl rfl
  · split
    · by_cases e : b < B
      · exact .inr (ms_dl_at e)
      · exact .inl (ms_dl_n (by omega) (fun b' hb' => by omega))
    · exact .inl rfl
theorem ms_moves_n {w : Nat → Int32} {b k j : Nat} (h15 : j ≠ 15) (h : j ≠ 19 + 9 * b + 0 ∧ j ≠ 19 + 9 * b + 4 ∧ j ≠ 19 + 9 * k + 0 ∧ j ≠ 19 + 9 * k + 5) : ms_moves w b k j = w j := by
  unfold ms_moves
  simp (disch := omega) only [u1n]
theorem ms_trades_n {w : Nat → Int32} {B j : Nat} (h15 : j ≠ 15) (h : ∀ b, b < 4 → j ≠ 19 + 9 * b + 0 ∧ j ≠ 19 + 9 * b + 4 ∧ j ≠ 19 + 9 * b + 5) (h4 : B ≤ 4) : ∀ b, b ≤ B → ms_trades w B b j = w j
  | 0, _ => rfl
  | b + 1, hb => by
    have ih := ms_trades_n (w := w) h15 h h4 b (by omega)
    unfold ms_trades
    split
    · cases hk : ms_tk (ms_trades w B b) B with
      | none => exact ih
      | some k =>
        have := ms_tk_lt hk
        have h1 := h b (by omega)
        have h2 := h k (by omega)
        show ms_moves (ms_trades w B b) b k j = w j
        rw [ms_moves_n h15 (by omega), ih]
    · exact ih
theorem ms_tk_can {w : Nat → Int32} : ∀ {k f : Nat}, ms_tk w k = some f → ms_can w f
  | 0, _, h => by cases h
  | k + 1, f, h => by
    unfold ms_tk at h
    by_cases c : ms_can w k
    · rw [if_pos c] at h
      cases hg : ms_tk w k with
      | none =>
        rw [hg] at h
        cases h
        exact c
      | some g =>
        rw [hg] at h
        simp only [] at h
        split at h
        · cases h; exact c
        · cases h; exact ms_tk_can hg
    · rw [if_neg c] at h
      exact ms_tk_can h
theorem ms_trades_rg {w : Nat → Int32} {B τ : Nat} (h4 : B ≤ 4) (hτ : τ ≤ 3000) (h1 : ms_rg (w 1) 1 8) (h : ∀ b, b < 4 → ms_rg (w (19 + 9 * b + 0)) (-(8 + τ)) (9 + τ)) : ∀ b, b ≤ B → ∀ x, x < 4 → ms_rg (ms_trades w B b (19 + 9 * x + 0)) (-(8 + τ)) (9 + τ)
  | 0, _ => h
  | b + 1, hb => by
    have ih := ms_trades_rg h4 hτ h1 h b (by omega)
    unfold ms_trades
    split
    · rename_i c
      cases hk : ms_tk (ms_trades w B b) B with
      | none => exact ih
      | some k =>
        have hkB := ms_tk_lt hk
        have hc := (ms_tk_can hk).2
        have w1 : ms_trades w B b 1 = w 1 := ms_trades_lo w B (by omega) b
        rw [w1, i32_lt] at hc
        have hp := c.2
        rw [i32_lt, show (0 : Int32).toInt = 0 from by decide] at hp
        intro x hx
        simp only []
        generalize ms_trades w B b = v at *
        obtain ⟨b1, b2⟩ := ih b (by omega)
        obtain ⟨k1, k2⟩ := ih k (by omega)
        obtain ⟨x1, x2⟩ := ih x hx
        obtain ⟨y1, y2⟩ := h1
        have em : (v (19 + 9 * b + 0) + -1).toInt = (v (19 + 9 * b + 0)).toInt + -1 := by
          rw [i32_add] <;> rw [show (-1 : Int32).toInt = -1 from by decide] <;> omega
        unfold ms_moves ms_rg
        rw [u1n (k := 15) (by omega), u1n (k := 19 + 9 * k + 5) (by omega)]
        by_cases e1 : x = k
        · subst e1
          rw [u1s, u1n (k := 19 + 9 * b + 4) (by omega)]
          by_cases e2 : x = b
          · subst e2
            rw [u1s, i32_add] <;> rw [em, show (1 : Int32).toInt = 1 from by decide] <;> omega
          · rw [u1n (by omega), i32_add] <;> rw [show (1 : Int32).toInt = 1 from by decide] <;> omega
        · rw [u1n (by omega), u1n (k := 19 + 9 * b + 4) (by omega)]
          by_cases e2 : x = b
          · subst e2
            rw [u1s, em]
            omega
          · rw [u1n (by omega)]
            omega
    · exact ih
theorem ms_pre_n {t w : Nat → Int32} {C B j : Nat} (h4 : B ≤ 4) (h11 : j ≠ 11) (h15 : j ≠ 15) (h : ∀ b, b < 4 → j ≠ 19 + 9 * b + 0 ∧ j ≠ 19 + 9 * b + 4 ∧ j ≠ 19 + 9 * b + 5) : ms_pre t w C B j = ms_asked w C j := by
  have e : ms_debts t (ms_asked w C) B j = ms_asked w C j := ms_debts_n h11 (fun b hb => (h b (by omega)).1)
  unfold ms_pre
  split
  · rw [ms_trades_n h15 h h4 B (Nat.le_refl B), e]
  · exact e
theorem ms_pre_rg {t w : Nat → Int32} {B R C T τ : Nat} (h4 : B ≤ 4) (h : SI w B R C T τ) : ∀ b, b < 4 → ms_rg (ms_pre t w C B (19 + 9 * b + 0)) (-(8 + τ)) (9 + τ) := by
  obtain ⟨-, -, ⟨-, hτ⟩, ⟨-, h1, -, -⟩, hd, -⟩ := h
  have e0 : ∀ b, b < 4 → ms_rg (ms_debts t (ms_asked w C) B (19 + 9 * b + 0)) (-(8 + τ)) (9 + τ) := fun b hb => by
    obtain ⟨a1, a2⟩ := hd b hb
    have ea : ms_asked w C (19 + 9 * b + 0) = w (19 + 9 * b + 0) := ms_asked_lo w (by omega) (by omega) C
    unfold ms_rg
    rcases ms_debts_at (t := t) (w := ms_asked w C) (B := B) (b := b) with e | e
    · rw [e, ea]
      omega
    · rw [e, ea, i32_add] <;> rw [show (1 : Int32).toInt = 1 from by decide] <;> omega
  unfold ms_pre
  split
  · refine ms_trades_rg h4 hτ ?_ e0 B (Nat.le_refl B)
    rw [ms_debts_lo (by omega) (by omega), ms_asked_lo w (by omega) (by omega)]
    exact h1
  · exact e0
