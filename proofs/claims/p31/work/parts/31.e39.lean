/-! THE PROGRAM AGAINST THE REFERENCE, 25: a tick keeps what every state keeps, whole -/
theorem ms_ages_n {t w : Nat → Int32} {b r k : Nat} {to hot : Int32} (h : k ≠ 55 + 5 * (16 * b + r) + 0 ∧ k ≠ 55 + 5 * (16 * b + r) + 1 ∧ k ≠ 55 + 5 * (16 * b + r) + 4) (h14 : k ≠ 14) : ms_ages t w b r to hot k = w k := by
  unfold ms_ages
  split
  · simp (disch := omega) only [u1n]
  · split
    · unfold ms_lose ms_age1
      simp (disch := omega) only [u1n]
    · unfold ms_age1
      simp (disch := omega) only [u1n]
theorem ms_ages_0 {t w : Nat → Int32} {b r : Nat} {to hot : Int32} : ms_ages t w b r to hot (55 + 5 * (16 * b + r) + 0) = 0 ∨ ms_ages t w b r to hot (55 + 5 * (16 * b + r) + 0) = w (55 + 5 * (16 * b + r) + 0) + 1 := by
  unfold ms_ages
  split
  · left
    simp (disch := omega) only [u1n, u1s]
  · right
    split
    · unfold ms_lose ms_age1
      simp (disch := omega) only [u1n, u1s]
    · unfold ms_age1
      rw [u1s]
theorem ms_rows_n {t w : Nat → Int32} {b k : Nat} {to hot : Int32} (hk : k < 55 ∨ 375 ≤ k) (h14 : k ≠ 14) (hb : b < 4) : ∀ r, r ≤ 16 → ms_rows t w b to hot r k = w k
  | 0, _ => rfl
  | r + 1, h => by
    show ms_ages t (ms_rows t w b to hot r) b r to hot k = w k
    rw [ms_ages_n (by omega) h14, ms_rows_n hk h14 hb r (by omega)]
theorem ms_rows_0 {t w : Nat → Int32} {b : Nat} {to hot : Int32} : ∀ r, r ≤ 16 → ∀ c, ((¬ (16 * b ≤ c ∧ c < 16 * b + r)) → ms_rows t w b to hot r (55 + 5 * c + 0) = w (55 + 5 * c + 0)) ∧
    (ms_rows t w b to hot r (55 + 5 * c + 0) = w (55 + 5 * c + 0) ∨ ms_rows t w b to hot r (55 + 5 * c + 0) = 0 ∨ ms_rows t w b to hot r (55 + 5 * c + 0) = w (55 + 5 * c + 0) + 1)
  | 0, _, c => ⟨fun _ => rfl, .inl rfl⟩
  | r + 1, h, c => by
    have ih := ms_rows_0 (t := t) (w := w) (b := b) (to := to) (hot := hot) r (by omega) c
    show (_ → ms_ages t (ms_rows t w b to hot r) b r to hot (55 + 5 * c + 0) = _) ∧ (ms_ages t (ms_rows t w b to hot r) b r to hot (55 + 5 * c + 0) = _ ∨ ms_ages t (ms_rows t w b to hot r) b r to hot (55 + 5 * c + 0) = _ ∨ ms_ages t (ms_rows t w b to hot r) b r to hot (55 + 5 * c + 0) = _)
    by_cases e : c = 16 * b + r
    · subst e
      refine ⟨fun z => absurd z (by omega), ?_⟩
      rcases ms_ages_0 (t := t) (w := ms_rows t w b to hot r) (b := b) (r := r) (to := to) (hot := hot) with e | e
      · exact .inr (.inl e)
      · rw [ih.1 (by omega)] at e
        exact .inr (.inr e)
    · rw [ms_ages_n (by omega) (by omega)]
      exact ⟨fun z => ih.1 (by omega), ih.2⟩
theorem ms_cool1_n {w : Nat → Int32} {b k : Nat} {sv : Option Nat} (h : k ≠ 19 + 9 * b + 1) : ms_cool1 w b sv k = w k := by
  unfold ms_cool1
  split
  · rw [u1n h]
  · rfl
theorem ms_grow_n {t w : Nat → Int32} {R k : Nat} {to hot : Nat → Int32} {sv : Nat → Option Nat} (hk : k < 55 ∨ 375 ≤ k) (h14 : k ≠ 14) (hh : ∀ b, b < 4 → k ≠ 19 + 9 * b + 1) (h16 : R ≤ 16) : ∀ b, b ≤ 4 → ms_grow t w R to hot sv b k = w k
  | 0, _ => rfl
  | b + 1, h => by
    show ms_cool1 (ms_rows t (ms_grow t w R to hot sv b) b (to b) (hot b) R) b (sv b) k = w k
    rw [ms_cool1_n (hh b (by omega)), ms_rows_n hk h14 (by omega) R h16, ms_grow_n hk h14 hh h16 b (by omega)]
theorem ms_grow_0 {t w : Nat → Int32} {R : Nat} {to hot : Nat → Int32} {sv : Nat → Option Nat} (h16 : R ≤ 16) : ∀ b, b ≤ 4 → ∀ c, c < 64 → (16 * b ≤ c → ms_grow t w R to hot sv b (55 + 5 * c + 0) = w (55 + 5 * c + 0)) ∧
    (ms_grow t w R to hot sv b (55 + 5 * c + 0) = w (55 + 5 * c + 0) ∨ ms_grow t w R to hot sv b (55 + 5 * c + 0) = 0 ∨ ms_grow t w R to hot sv b (55 + 5 * c + 0) = w (55 + 5 * c + 0) + 1)
  | 0, _, c, _ => ⟨fun _ => rfl, .inl rfl⟩
  | b + 1, h, c, hc => by
    have ih := ms_grow_0 (t := t) (w := w) (to := to) (hot := hot) (sv := sv) h16 b (by omega) c hc
    have rr := ms_rows_0 (t := t) (w := ms_grow t w R to hot sv b) (b := b) (to := to b) (hot := hot b) R h16 c
    show (_ → ms_cool1 (ms_rows t (ms_grow t w R to hot sv b) b (to b) (hot b) R) b (sv b) _ = _) ∧ (ms_cool1 (ms_rows t (ms_grow t w R to hot sv b) b (to b) (hot b) R) b (sv b) _ = _ ∨ ms_cool1 (ms_rows t (ms_grow t w R to hot sv b) b (to b) (hot b) R) b (sv b) _ = _ ∨ ms_cool1 (ms_rows t (ms_grow t w R to hot sv b) b (to b) (hot b) R) b (sv b) _ = _)
    rw [ms_cool1_n (by omega)]
    refine ⟨fun z => by rw [rr.1 (by omega), ih.1 (by omega)], ?_⟩
    by_cases e : 16 * b ≤ c
    · rw [← ih.1 e]
      exact rr.2
    · rw [rr.1 (by omega)]
      exact ih.2
theorem SI_tick {t w : Nat → Int32} {B R C T τ S : Nat} (hT : TC t B R) (h : SI w B R C T τ) (hτ : τ + 1 ≤ 3000) : SI (ms_tick t w C R B S) B R C T (τ + 1) := by
  have hSI := h
  obtain ⟨⟨c1, c2, c3⟩, c4, ⟨c5, -⟩, ⟨c6, c7, c8, c9⟩, c10, c11, c12, c13⟩ := h
  obtain ⟨⟨t0, t1, b1, b4, r1, r16⟩, -, -, -⟩ := hT
  have pq : ∀ q x, 375 ≤ 375 + 6 * q + x → ms_pre t w C B (375 + 6 * q + x) = ms_asked w C (375 + 6 * q + x) := fun q x _ => ms_pre_n b4 (by omega) (by omega) (fun b hb => by omega)
  have p0 : ∀ q, ms_pre t w C B (375 + 6 * q + 0) = w (375 + 6 * q + 0) := fun q => ms_pre_q1 (k := 0) (by omega) b4
  have p1 : ∀ q, ms_pre t w C B (375 + 6 * q + 1) = w (375 + 6 * q + 1) := fun q => ms_pre_q1 (k := 1) (by omega) b4
  have plo : ∀ k, k < 10 → ms_pre t w C B k = w k := fun k hk => ms_pre_lo (by omega) (by omega) (by omega)
  have p16 : ms_pre t w C B 16 = w 16 := by rw [ms_pre_n b4 (by omega) (by omega) (fun b hb => by omega), ms_asked_lo w (by omega) (by omega)]
  have page : ∀ c, c < 64 → ms_pre t w C B (55 + 5 * c + 0) = w (55 + 5 * c + 0) := fun c hc => by rw [ms_pre_n b4 (by omega) (by omega) (fun b hb => by omega), ms_asked_lo w (by omega) (by omega)]
  have pm : ∀ b, ms_many (ms_pre t w C B) b 2 C = ms_many w b 2 C := fun b => by
    rw [ms_many_c (w := ms_asked w C) (fun q _ => by rw [pq q 3 (by omega), pq q 0 (by omega)]), ms_asked_many]
  have psv : ∀ b, b < 4 → ms_pre t w C B (19 + 9 * b + 2) = Int32.ofNat (ms_many (ms_pre t w C B) b 2 C) := fun b hb => by
    rw [ms_pre_n b4 (by omega) (by omega) (fun b hb => by omega), ms_asked_lo w (by omega) (by omega), c12 b hb, pm]
  have prg := ms_pre_rg (t := t) b4 hSI
  have prow : ∀ q, q < C → ∃ r, r < 16 ∧ ms_pre t w C B (375 + 6 * q + 1) = Int32.ofNat r := fun q hq => by
    obtain ⟨-, r, hr, e⟩ := c4 q hq
    exact ⟨r, by omega, by rw [p1, e]⟩
  have pnz : ∀ q, T ≤ q → q < C → ms_pre t w C B (375 + 6 * q + 3) ≠ 0 := fun q h1 h2 => by
    rw [pq q 3 (by omega)]
    exact ms_asked_nz (c3 q h1 h2) C
  unfold ms_tick
  generalize ms_pre t w C B = p at *
  have hTS : ms_TS B (ms_sv t p C R B S) (ms_to t p C R B S) := fun b hb => by
    obtain ⟨y1, y2⟩ := ms_sv_to (t := t) (S := S) (B := B) (b := b) r16 prow
    exact ⟨y2, fun q hq => (y1 q hq).2⟩
  have hsv : ∀ b q, b < B → ms_sv t p C R B S b = some q → q < C ∧ p (375 + 6 * q + 3) = 1 ∧ p (375 + 6 * q + 0) = Int32.ofNat b := fun b q hb hq => by
    unfold ms_sv at hq
    split at hq
    · cases hq
    · have := ms_fnd_wt hq
      exact ⟨ms_wat_lt hq, this.1, this.2.1⟩
  obtain ⟨j1, ⟨k, hk, j2⟩, j3, j4, j5⟩ := ms_acts_J (wi := ms_wi t p C R) (g := ms_gg t p C R B S) (C := C) hTS b4 hsv B (Nat.le_refl B)
  have jn := fun k hk => ms_acts_n (w := p) (wi := ms_wi t p C R) (g := ms_gg t p C R B S) (k := k) hTS b4 hk B (Nat.le_refl B)
  generalize ms_acts p (ms_wi t p C R) (ms_gg t p C R B S) (ms_sv t p C R B S) (ms_to t p C R B S) B = A at *
  have gn := fun k h1 h2 h3 => ms_grow_n (t := t) (w := A) (R := R) (k := k) (to := ms_to t p C R B S) (hot := ms_was p (ms_wi t p C R) (ms_gg t p C R B S) (ms_sv t p C R B S) (ms_to t p C R B S)) (sv := ms_sv t p C R B S) h1 h2 h3 r16 B b4
  have g0 := ms_grow_0 (t := t) (w := A) (R := R) (to := ms_to t p C R B S) (hot := ms_was p (ms_wi t p C R) (ms_gg t p C R B S) (ms_sv t p C R B S) (ms_to t p C R B S)) (sv := ms_sv t p C R B S) r16 B b4
  generalize ms_grow t A R (ms_to t p C R B S) (ms_was p (ms_wi t p C R) (ms_gg t p C R B S) (ms_sv t p C R B S) (ms_to t p C R B S)) (ms_sv t p C R B S) B = W at *
  have en : ∀ k, k ≠ 8 → ms_end W k = W k := fun k hk => u1n hk
  have hi : ∀ k, 375 ≤ k → ms_end W k = A k := fun k hk => by rw [en k (by omega), gn k (.inr hk) (by omega) (fun b hb => by omega)]
  have lo : ∀ k, k < 8 → ms_end W k = w k := fun k hk => by
    rw [en k (by omega), gn k (.inl (by omega)) (by omega) (fun b hb => by omega), jn k (.inl (by omega)), plo k (by omega)]
  have q0 : ∀ q, ms_end W (375 + 6 * q + 0) = w (375 + 6 * q + 0) := fun q => by
    rw [hi _ (by omega), jn _ (.inr (.inr (.inr (.inr (.inr ⟨q, 0, by omega, rfl⟩))))), p0]
  have q1 : ∀ q, ms_end W (375 + 6 * q + 1) = w (375 + 6 * q + 1) := fun q => by
    rw [hi _ (by omega), jn _ (.inr (.inr (.inr (.inr (.inr ⟨q, 1, by omega, rfl⟩))))), p1]
  refine ⟨⟨c1, c2, fun q h1 h2 => ?_⟩, fun q hq => ?_, ⟨?_, by omega⟩, ⟨?_, ?_, ?_, ?_⟩, fun b hb => ?_, fun c hc => ?_, fun b hb => ?_, ?_⟩
  · rw [hi _ (by omega)]
    exact j4 q (pnz q h1 h2)
  · rw [q0, q1]
    exact c4 q hq
  · have w8 : W 8 = Int32.ofNat τ := by rw [gn 8 (.inl (by omega)) (by omega) (fun b hb => by omega), jn 8 (.inl (by omega)), plo 8 (by omega), c5]
    show ev_u1 W 8 (W 8 + 1) 8 = _
    rw [u1s, w8, ni_1]
  · rw [lo 0 (by omega)]
    exact c6
  · rw [lo 1 (by omega)]
    exact c7
  · rw [lo 2 (by omega)]
    exact c8
  · rw [lo 7 (by omega), lo 3 (by omega)]
    exact c9
  · rw [en _ (by omega), gn _ (.inl (by omega)) (by omega) (fun b hb => by omega)]
    obtain ⟨y1, y2⟩ := prg b hb
    unfold ms_rg
    rcases (j1 b hb).2 with e | e
    · rw [e]
      omega
    · rw [e, i32_add] <;> rw [show (-1 : Int32).toInt = -1 from by decide] <;> omega
  · rw [en _ (by omega)]
    obtain ⟨y1, y2⟩ := c11 c hc
    have ae : A (55 + 5 * c + 0) = w (55 + 5 * c + 0) := by rw [jn _ (.inr (.inr (.inr (.inr (.inl ⟨c, hc, .inl rfl⟩))))), page c hc]
    unfold ms_rg
    rcases (g0 c hc).2 with e | e | e
    · rw [e, ae]
      omega
    · rw [e, show (0 : Int32).toInt = 0 from by decide]
      omega
    · rw [e, ae, i32_add] <;> rw [show (1 : Int32).toInt = 1 from by decide] <;> omega
  · rw [en _ (by omega), gn _ (.inl (by omega)) (by omega) (fun b hb => by omega), j5 b hb (psv b hb)]
    exact congrArg Int32.ofNat (ms_many_c (fun q hq => by rw [hi _ (by omega), hi _ (by omega)])).symm
  · rw [en _ (by omega), gn _ (.inl (by omega)) (by omega) (fun b hb => by omega), j2, p16]
    obtain ⟨y1, y2⟩ := c13
    unfold ms_rg
    rw [i32_add] <;> rw [ni_t (by omega)] <;> omega
