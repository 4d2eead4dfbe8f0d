/-! THE LAW'S METHODS, 9: what stays as ticks go by -/
theorem sum_u {w : Nat → Int32} {k : Nat} {v : Int32} : ∀ B, ms_sum (ev_u1 w (19 + 9 * k + 0) v) B = if k < B then ms_sum w B + (v - w (19 + 9 * k + 0)) else ms_sum w B
  | 0 => by rw [if_neg (by omega)]; rfl
  | B + 1 => by
    have ih := sum_u (w := w) (k := k) (v := v) B
    show ms_sum (ev_u1 w (19 + 9 * k + 0) v) B + ev_u1 w (19 + 9 * k + 0) v (19 + 9 * B + 0) = _
    rw [ih]
    have e : ms_sum w (B + 1) = ms_sum w B + w (19 + 9 * B + 0) := rfl
    rw [e]
    by_cases c : k = B
    · subst c
      rw [u1s, if_neg (by omega), if_pos (by omega)]
      grind
    · rw [u1n (by omega)]
      by_cases c2 : k < B
      · rw [if_pos c2, if_pos (by omega)]
        grind
      · rw [if_neg c2, if_neg (by omega)]
theorem WH_c {w w' : Nat → Int32} {B : Nat} (h : WH w B) (h0 : ∀ b, b < B → w' (19 + 9 * b + 0) = w (19 + 9 * b + 0)) (h1 : w' 11 = w 11) (h2 : w' 12 = w 12) : WH w' B := by
  unfold WH
  rw [ms_sum_c h0, h1, h2]
  exact h
theorem WH_dl {w : Nat → Int32} {B : Nat} (h : WH w B) : ∀ b, b ≤ B → WH (ms_dl w b) B
  | 0, _ => h
  | b + 1, hb => by
    have ih := WH_dl h b (by omega)
    have e : ms_dl w (b + 1) = ev_u1 (ev_u1 (ms_dl w b) (19 + 9 * b + 0) (ms_dl w b (19 + 9 * b + 0) + 1)) 11 (ms_dl w b 11 + 1) := rfl
    unfold WH at ih ⊢
    rw [e, ms_sum_c (w := ev_u1 (ms_dl w b) (19 + 9 * b + 0) (ms_dl w b (19 + 9 * b + 0) + 1)) (fun x hx => u1n (by omega)), sum_u, if_pos (by omega), u1s, u1n (by omega), u1n (by omega), ih]
    grind
theorem sum_moves {w : Nat → Int32} {b k B : Nat} (hb : b < B) (hk : k < B) : ms_sum (ms_moves w b k) B = ms_sum w B := by
  unfold ms_moves
  simp only []
  rw [ms_sum_c (w := ev_u1 (ev_u1 (ev_u1 w (19 + 9 * b + 0) (w (19 + 9 * b + 0) + -1)) (19 + 9 * b + 4) (ev_u1 w (19 + 9 * b + 0) (w (19 + 9 * b + 0) + -1) (19 + 9 * b + 4) + 1)) (19 + 9 * k + 0) (ev_u1 (ev_u1 w (19 + 9 * b + 0) (w (19 + 9 * b + 0) + -1)) (19 + 9 * b + 4) (ev_u1 w (19 + 9 * b + 0) (w (19 + 9 * b + 0) + -1) (19 + 9 * b + 4) + 1) (19 + 9 * k + 0) + 1)) (fun x hx => by rw [u1n (by omega), u1n (by omega)]), sum_u, if_pos hk, ms_sum_c (w := ev_u1 w (19 + 9 * b + 0) (w (19 + 9 * b + 0) + -1)) (fun x hx => u1n (by omega)), sum_u, if_pos hb]
  grind
theorem WH_moves {w : Nat → Int32} {b k B : Nat} (h : WH w B) (hb : b < B) (hk : k < B) : WH (ms_moves w b k) B := by
  unfold WH
  rw [sum_moves hb hk, ms_moves_lo (by omega), ms_moves_lo (by omega)]
  exact h
theorem WH_trades {w : Nat → Int32} {B : Nat} (h : WH w B) : ∀ b, b ≤ B → WH (ms_trades w B b) B
  | 0, _ => h
  | b + 1, hb => by
    have ih := WH_trades h b (by omega)
    unfold ms_trades
    split
    · split
      · exact ih
      · rename_i k hk
        exact WH_moves ih (by omega) (ms_tk_lt hk)
    · exact ih
theorem WH_pre {t w : Nat → Int32} {C B : Nat} (h : WH w B) (h4 : B ≤ 4) : WH (ms_pre t w C B) B := by
  have h1 : WH (ms_asked w C) B := WH_c h (fun b hb => ms_asked_lo w (by omega) (by omega) C) (ms_asked_lo w (by omega) (by omega) C) (ms_asked_lo w (by omega) (by omega) C)
  have h2 : WH (ms_debts t (ms_asked w C) B) B := by
    unfold ms_debts
    split
    · exact h1
    · split
      · exact WH_dl h1 B (Nat.le_refl B)
      · exact h1
  unfold ms_pre
  split
  · exact WH_trades h2 B (Nat.le_refl B)
  · exact h2
theorem WH_one {w : Nat → Int32} {B b wi : Nat} {g : Bool} {sv : Option Nat} {to : Int32} (h : WH w B) (hb : b < B) (h4 : B ≤ 4) (h1 : to = -1 ∨ ∃ r, r < 16 ∧ to = Int32.ofNat r) (h2 : ∀ q, sv = some q → ∃ r, r < 16 ∧ to = Int32.ofNat r) : WH (ms_one w b wi g sv to) B := by
  rw [one_ac]
  have hs : WH (st_one w b (Int32.ofNat wi) (ms_b01 g)) B := WH_c h (fun x hx => st_n (fun z => by unfold A6 at z; omega)) (st_n (fun z => by unfold A6 at z; omega)) (st_n (fun z => by unfold A6 at z; omega))
  generalize st_one w b (Int32.ofNat wi) (ms_b01 g) = v at hs
  cases sv with
  | some p =>
    obtain ⟨r, hr, rfl⟩ := h2 p rfl
    show WH (ms_serve v b p (Int32.ofNat r).toNatClampNeg) B
    rw [ni_c (by omega), serve_eq (by omega) hr]
    exact WH_c hs (fun x hx => by simp (disch := omega) only [u1n]) (by simp (disch := omega) only [u1n]) (by simp (disch := omega) only [u1n])
  | none =>
    show WH (if to = -1 then v else ms_refresh v b to.toNatClampNeg (wi = 1)) B
    split
    · exact hs
    · rename_i hn
      obtain ⟨r, hr, rfl⟩ := h1.resolve_left hn
      rw [ni_c (by omega), refresh_eq (by omega)]
      unfold WH at hs ⊢
      rw [ms_sum_c (w := ev_u1 v (19 + 9 * b + 0) (v (19 + 9 * b + 0) - 1)) (fun x hx => by simp (disch := omega) only [u1n]), sum_u, if_pos hb, hs]
      have e11 : ev_u1 (ev_u1 (ev_u1 (ev_u1 (ev_u1 v (19 + 9 * b + 0) (v (19 + 9 * b + 0) - 1)) (19 + 9 * b + 3) (v (19 + 9 * b + 3) + 1)) (55 + 5 * (16 * b + r) + 2) (v (55 + 5 * (16 * b + r) + 2) + 1)) (11 + 1) (v (11 + 1) + 1)) (11 + 2) (v (11 + 2) + if wi = 1 then 1 else 0) 11 = v 11 := by rw [u1n (by omega), u1n (by omega), u1n (by omega), u1n (by omega), u1n (by omega)]
      have e12 : ev_u1 (ev_u1 (ev_u1 (ev_u1 (ev_u1 v (19 + 9 * b + 0) (v (19 + 9 * b + 0) - 1)) (19 + 9 * b + 3) (v (19 + 9 * b + 3) + 1)) (55 + 5 * (16 * b + r) + 2) (v (55 + 5 * (16 * b + r) + 2) + 1)) (11 + 1) (v (11 + 1) + 1)) (11 + 2) (v (11 + 2) + if wi = 1 then 1 else 0) 12 = v 12 + 1 := by
        rw [u1n (by omega)]
        exact u1s _ _ _
      rw [e11, e12]
      grind
section WT
variable {t w : Nat → Int32} {R B : Nat} {to hot : Nat → Int32} {sv : Nat → Option Nat} {wi : Nat → Nat} {g : Nat → Bool}
theorem WH_acts (hTS : ms_TS B sv to) (h4 : B ≤ 4) (h : WH w B) : ∀ b, b ≤ B → WH (ms_acts w wi g sv to b) B
  | 0, _ => h
  | b + 1, hb => by
    obtain ⟨h1, h2⟩ := hTS b (by omega)
    exact WH_one (WH_acts hTS h4 h b (by omega)) (by omega) h4 h1 h2
theorem grow_n (hR : R ≤ 16) {k : Nat} (hk : ∀ b, b < 4 → ¬ AR b k ∧ ¬ AH b k) : ∀ b, b ≤ 4 → ms_grow t w R to hot sv b k = w k
  | 0, _ => rfl
  | b + 1, hb => by
    show ms_cool1 (ms_rows t (ms_grow t w R to hot sv b) b (to b) (hot b) R) b (sv b) k = w k
    rw [cool_n (hk b (by omega)).2, rows_n hR (hk b (by omega)).1, grow_n hR hk b (by omega)]
theorem rows_m {b r0 : Nat} {x y : Int32} (hr : r0 < 16) (hb : b < 4) : ∀ R, (∀ r, r < R → r ≠ r0) → ∀ v : Nat → Int32, ms_rows t v b x y R (55 + 5 * (16 * b + r0) + 1) = v (55 + 5 * (16 * b + r0) + 1)
  | 0, _, _ => rfl
  | R + 1, h, v => by
    have ih := rows_m (x := x) (y := y) hr hb R (fun r hr => h r (by omega)) v
    have hne := h R (by omega)
    show ms_ages t (ms_rows t v b x y R) b R x y (55 + 5 * (16 * b + r0) + 1) = _
    unfold ms_ages ms_lose ms_age1
    split
    · rw [u1n (by omega), u1n (by omega), ih]
    · split
      · rw [u1n (by omega), u1n (by omega), u1n (by omega), u1n (by omega), ih]
      · rw [u1n (by omega), ih]
theorem BZ_grow (h4 : B ≤ 4) (hR : R ≤ 16) (h : BZ w B R) : ∀ b, b ≤ B → BZ (ms_grow t w R to hot sv b) B R
  | 0, _ => h
  | b + 1, hb => fun b' r' hb' hr' hn => by
    have ih := BZ_grow h4 hR h b (by omega) b' r' hb' hr' hn
    show ms_cool1 (ms_rows t (ms_grow t w R to hot sv b) b (to b) (hot b) R) b (sv b) (55 + 5 * (16 * b' + r') + 1) = 0
    rw [cool_n (fun z => by unfold AH at z; omega)]
    by_cases e : b' = b
    · subst e
      rw [rows_m hr' hb' R (fun r hr z => hn ⟨by omega, by omega⟩), ih]
    · rw [rows_n hR (fun z => by unfold AR at z; rcases z with z | ⟨x, hx, z⟩ <;> omega), ih]
theorem acts_n (hTS : ms_TS B sv to) {k : Nat} (hk : ∀ b, b < B → ¬ AA b (sv b) k ∧ ¬ A6 b k) : ∀ b, b ≤ B → ms_acts w wi g sv to b k = w k
  | 0, _ => rfl
  | b + 1, hb => by
    obtain ⟨h1, h2⟩ := hTS b (by omega)
    show ms_one (ms_acts w wi g sv to b) b (wi b) (g b) (sv b) (to b) k = w k
    rw [one_ac, ac_n h1 h2 (hk b (by omega)).1, st_n (hk b (by omega)).2, acts_n hTS hk b (by omega)]
end WT
theorem tick_TS {t w : Nat → Int32} {B R C T τ S : Nat} (hT : TC t B R) (hI : SI w B R C T τ) : ms_TS B (ms_sv t (ms_pre t w C B) C R B S) (ms_to t (ms_pre t w C B) C R B S) := fun b hb => by
  obtain ⟨⟨-, -, -, b4, -, h16⟩, -⟩ := hT
  obtain ⟨s1, s2⟩ := ms_sv_to (t := t) (w := ms_pre t w C B) (C := C) (R := R) (B := B) (S := S) (b := b) h16 (fun q hq => by
    rw [ms_pre_q1 (k := 1) (by omega) b4]
    obtain ⟨-, r, hr, e⟩ := hI.2.1 q hq
    exact ⟨r, by omega, e⟩)
  exact ⟨s2, fun q hq => (s1 q hq).2⟩
theorem WH_tick {t w : Nat → Int32} {B R C T τ S : Nat} (hT : TC t B R) (hI : SI w B R C T τ) (h : WH w B) : WH (ms_tick t w C R B S) B := by
  have hTS := tick_TS (S := S) hT hI
  obtain ⟨⟨-, -, -, b4, -, h16⟩, -⟩ := id hT
  have h1 := WH_acts (wi := ms_wi t (ms_pre t w C B) C R) (g := ms_gg t (ms_pre t w C B) C R B S) hTS b4 (WH_pre (t := t) (C := C) h b4) B (Nat.le_refl B)
  have ng : ∀ k, (k = 11 ∨ k = 12 ∨ ∃ b, b < 4 ∧ k = 19 + 9 * b + 0) → ∀ b, b < 4 → ¬ AR b k ∧ ¬ AH b k := fun k hk b hb => by
    unfold AR AH
    refine ⟨fun z => ?_, fun z => ?_⟩
    · rcases z with z | ⟨x, hx, z⟩ <;> rcases hk with hk | hk | ⟨y, hy, hk⟩ <;> omega
    · rcases hk with hk | hk | ⟨y, hy, hk⟩ <;> omega
  unfold ms_tick ms_end
  refine WH_c h1 (fun b hb => ?_) ?_ ?_
  · rw [u1n (by omega), grow_n h16 (ng _ (.inr (.inr ⟨b, by omega, rfl⟩))) B b4]
  · rw [u1n (by omega), grow_n h16 (ng _ (.inl rfl)) B b4]
  · rw [u1n (by omega), grow_n h16 (ng _ (.inr (.inl rfl))) B b4]
theorem BZ_tick {t w : Nat → Int32} {B R C T τ S : Nat} (hT : TC t B R) (hI : SI w B R C T τ) (h : BZ w B R) : BZ (ms_tick t w C R B S) B R := by
  have hTS := tick_TS (S := S) hT hI
  obtain ⟨⟨-, -, -, b4, -, h16⟩, -⟩ := id hT
  have h1 : BZ (ms_acts (ms_pre t w C B) (ms_wi t (ms_pre t w C B) C R) (ms_gg t (ms_pre t w C B) C R B S) (ms_sv t (ms_pre t w C B) C R B S) (ms_to t (ms_pre t w C B) C R B S) B) B R := fun b r hb hr hn => by
    rw [acts_n hTS (fun x hx => ⟨fun z => ?_, fun z => ?_⟩) B (Nat.le_refl B), ms_pre_n b4 (by omega) (by omega) (fun x hx => by omega), ms_asked_lo w (by omega) (by omega)]
    · exact h b r hb hr hn
    · unfold AA at z
      rcases z with z | z | ⟨y, hy, z⟩ | ⟨y, hy, z⟩ <;> omega
    · unfold A6 at z
      omega
  intro b r hb hr hn
  unfold ms_tick ms_end
  rw [u1n (by omega)]
  exact BZ_grow b4 h16 h1 B (Nat.le_refl B) b r hb hr hn
theorem S3_tick {t w : Nat → Int32} {B R C T τ S : Nat} (hT : TC t B R) (hI : SI w B R C T τ) (h : S3 w C) : S3 (ms_tick t w C R B S) C := by
  have hTS := tick_TS (S := S) hT hI
  obtain ⟨⟨-, -, -, b4, -, h16⟩, -⟩ := id hT
  have h40 := hI.1.2.1
  have ha : ∀ k, k ≤ C → S3 (ms_asked w k) C := fun k => by
    induction k with
    | zero => intro _; exact h
    | succ k ih =>
      intro hk
      unfold ms_asked
      split
      · intro q hq
        by_cases e : q = k
        · subst e
          exact .inr (.inl (come_3 _ _))
        · rw [come_n (by omega) (by omega) (by omega)]
          exact ih (by omega) q hq
      · exact ih (by omega)
  have hp : S3 (ms_pre t w C B) C := fun q hq => by
    rw [ms_pre_n b4 (by omega) (by omega) (fun x hx => by omega)]
    exact ha C (Nat.le_refl C) q hq
  have hb : ∀ b, b ≤ B → S3 (ms_acts (ms_pre t w C B) (ms_wi t (ms_pre t w C B) C R) (ms_gg t (ms_pre t w C B) C R B S) (ms_sv t (ms_pre t w C B) C R B S) (ms_to t (ms_pre t w C B) C R B S) b) C := fun b => by
    induction b with
    | zero => intro _; exact hp
    | succ b ih =>
      intro hb q hq
      obtain ⟨h1, h2⟩ := hTS b (by omega)
      have ihb := ih (by omega)
      show ms_one _ b _ _ _ _ (375 + 6 * q + 3) = 0 ∨ ms_one _ b _ _ _ _ (375 + 6 * q + 3) = 1 ∨ ms_one _ b _ _ _ _ (375 + 6 * q + 3) = 2
      rw [one_ac]
      have hst : S3 (st_one (ms_acts (ms_pre t w C B) (ms_wi t (ms_pre t w C B) C R) (ms_gg t (ms_pre t w C B) C R B S) (ms_sv t (ms_pre t w C B) C R B S) (ms_to t (ms_pre t w C B) C R B S) b) b (Int32.ofNat (ms_wi t (ms_pre t w C B) C R b)) (ms_b01 (ms_gg t (ms_pre t w C B) C R B S b))) C := fun x hx => by
        rw [st_n (fun z => by unfold A6 at z; omega)]
        exact ihb x hx
      generalize st_one _ b _ _ = v at hst ⊢
      by_cases e : ms_sv t (ms_pre t w C B) C R B S b = some q
      · obtain ⟨r, hr, er⟩ := h2 q e
        rw [e, er]
        refine .inr (.inr ?_)
        show ms_serve v b q (Int32.ofNat r).toNatClampNeg (375 + 6 * q + 3) = 2
        rw [ni_c (by omega), serve_eq (by omega) hr]
        simp (disch := omega) only [u1n, u1s]
      · rw [ac_n h1 h2 (fun z => ?_)]
        · exact hst q hq
        · unfold AA at z
          rcases z with z | z | ⟨x, hx, z⟩ | ⟨x, hx, z⟩
          · omega
          · omega
          · omega
          · have : x = q := by omega
            subst this
            exact e hx
  intro q hq
  unfold ms_tick ms_end
  rw [u1n (by omega), grow_n h16 (fun b hb => ⟨fun z => by unfold AR at z; rcases z with z | ⟨x, hx, z⟩ <;> omega, fun z => by unfold AH at z; omega⟩) B b4]
  exact hb B (Nat.le_refl B) q hq
/-- the three together -/
def PW (w : Nat → Int32) (B R C : Nat) : Prop := BZ w B R ∧ WH w B ∧ S3 w C
theorem PW_ticks {t : Nat → Int32} {B R C T S : Nat} (hT : TC t B R) : ∀ k τ (w : Nat → Int32), SI w B R C T τ → τ + k ≤ 3000 → PW w B R C → PW (ms_ticks t w C R B S k) B R C ∧ SI (ms_ticks t w C R B S k) B R C T (τ + k)
  | 0, _, _, hI, _, h => ⟨h, hI⟩
  | k + 1, τ, w, hI, hτ, h => by
    have e := PW_ticks (S := S) hT k (τ + 1) (ms_tick t w C R B S) (SI_tick hT hI (by omega)) (by omega) ⟨BZ_tick hT hI h.1, WH_tick hT hI h.2.1, S3_tick hT hI h.2.2⟩
    rw [show τ + (k + 1) = τ + 1 + k by omega]
    exact e
