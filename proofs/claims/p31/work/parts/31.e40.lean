/-! THE PROGRAM AGAINST THE REFERENCE, 26: a tick -/
section EC16
variable {n : Nat} {lk : Nat → Nat → Nat → Bool} {d : Nat → Nat → Nat → Int32} {o : ev_W}
theorem SI_rem {t w : Nat → Int32} {B R C T τ b r : Nat} (hT : TC t B R) (h : SI w B R C T τ) (hb : b < 4) (hr : r < 16) : ms_rg (ms_rem t (ms_pre t w C B) b r) (1 - τ) 999 := by
  have hτ := h.2.2.1.2
  refine ms_rem_rg hT ?_ hτ
  have b4 := hT.1.2.2.2.1
  have := h.2.2.2.2.2.1 (16 * b + r) (by omega)
  have e : ms_pre t w C B (55 + 5 * (16 * b + r)) = w (55 + 5 * (16 * b + r)) := by rw [ms_pre_n b4 (by omega) (by omega) (fun b hb => by omega), ms_asked_lo w (by omega) (by omega)]
  rw [e]
  exact this
theorem ec_tick (hl : LK lk) {i : Nat} (hi : i < 15) {t w : Nat → Int32} {C K B R S T τ : Nat} (hs : CS d i w C K) (hL : CL d 1 t) (hTc : d 24 1 4 = Int32.ofNat T) (hT : TC t B R) (hI : SI w B R C T τ) (hS : w 0 = Int32.ofNat S) (hS4 : S ≤ 4) :
    ∃ d' K', EV (71, 0, [ev_R 32 0, ev_R 0 i], [], 0, 0) (n, lk, d, o) = some (.inl (some (ev_I (ms_tick t w C R B S 14 - w 14))), (n, lk, d', o)) ∧ FT d d' i ∧ CS d' i (ms_tick t w C R B S) C K' ∧
      ∀ b, b < B → d' 37 0 b = ms_to t (ms_pre t w C B) C R B S b ∧ d' 38 0 b = ms_en (ms_sv t (ms_pre t w C B) C R B S b) := by
  have hI0 := hI
  obtain ⟨⟨c1, c2, c3⟩, c4, ⟨c5, c5'⟩, ⟨-, -, -, c9, c3r⟩, -⟩ := hI
  obtain ⟨⟨t0, t1, b1, b4, r1, r16⟩, -, ⟨t3, t3'⟩, -⟩ := id hT
  have ht3 : 0 < t 3 := by
    rw [i32_lt, show (0 : Int32).toInt = 0 from by decide]
    omega
  -- up to the looks
  obtain ⟨d1, K1, e1, f1, s1⟩ := ec_letCome (n := n) (o := o) hl hi hs hTc c1 c3
  have a8 : ms_asked w C 8 = Int32.ofNat τ := by rw [ms_asked_lo w (by omega) (by omega), c5]
  obtain ⟨d2, e2, f2, s2⟩ := ec_raise (n := n) (o := o) hl hi s1 (FT_CL (FR_FT f1) hL) t0 b4 ht3 (by rw [a8]; exact (ni_le (a := 0) (by omega) (by omega)).mpr (Nat.zero_le _))
  have d7 : ms_debts t (ms_asked w C) B 7 = w 7 := by rw [ms_debts_lo (by omega) (by omega), ms_asked_lo w (by omega) (by omega)]
  have pre : ∃ d3, (∀ r, EV (71, 24, [ev_R 32 0, ev_R 0 i, ev_I 0], [], 0, 0) (n, lk, d3, o) = some r → EV (71, 0, [ev_R 32 0, ev_R 0 i], [], 0, 0) (n, lk, d, o) = some r) ∧ FR d d3 i ∧ CS d3 i (ms_pre t w C B) C K1 := by
    rcases c9 with z | z
    · have ep : ms_pre t w C B = ms_debts t (ms_asked w C) B := if_neg (by rw [d7, z]; decide)
      refine ⟨d2, fun r h => ?_, FR_t f1 f2, by rw [ep]; exact s2⟩
      refine EV_bk (k := 400) ?_
      rw [bk_71_0, e1]
      simp only [ev_bv]
      rw [e2]
      simp only [cs_tr s2, d7, z]
      rw [if_pos trivial]
      exact h
    · have ep : ms_pre t w C B = ms_trades (ms_debts t (ms_asked w C) B) B B := if_pos (by rw [d7, z])
      obtain ⟨d3, e3, f3, s3⟩ := ec_trade (n := n) (o := o) hl hi s2 ((FT_CL (FR_FT (FR_t f1 f2)) hL).1.trans t0) b4 (by
        rw [ms_debts_lo (by omega) (by omega), ms_asked_lo w (by omega) (by omega), i32_le, show (1000000000 : Int32).toInt = 1000000000 from by decide]
        have := c3r.2
        omega)
      refine ⟨d3, fun r h => ?_, FR_t (FR_t f1 f2) f3, by rw [ep]; exact s3⟩
      refine EV_bk (k := 400) ?_
      rw [bk_71_0, e1]
      simp only [ev_bv]
      rw [e2]
      simp only [cs_tr s2, d7, z]
      rw [if_neg (by decide), e3]
      exact h
  obtain ⟨d3, e3, f3, s3⟩ := pre
  have hrm : ∀ b r, b < 4 → r < 16 → ms_rg (ms_rem t (ms_pre t w C B) b r) (1 - τ) 999 := fun b r hb hr => SI_rem hT hI0 hb hr
  have hdb := ms_pre_rg (t := t) b4 hI0
  have hrow : ∀ q, q < C → ∃ r, r < R ∧ ms_pre t w C B (375 + 6 * q + 1) = Int32.ofNat r := fun q hq => by
    obtain ⟨-, r, hr, e⟩ := c4 q hq
    exact ⟨r, hr, by rw [ms_pre_q1 (k := 1) (by omega) b4, e]⟩
  have hrow' : ∀ q, q < C → ∃ r, r < 16 ∧ ms_pre t w C B (375 + 6 * q + 1) = Int32.ofNat r := fun q hq => by
    obtain ⟨r, hr, e⟩ := hrow q hq
    exact ⟨r, by omega, e⟩
  have p0 : ms_pre t w C B 0 = Int32.ofNat S := by rw [ms_pre_lo (by omega) (by omega) (by omega), hS]
  have p14 : ms_pre t w C B 14 = w 14 := ms_pre_lo (by omega) (by omega) (by omega)
  unfold ms_tick
  generalize ms_pre t w C B = p at *
  -- looks
  obtain ⟨d4, e4, f4, s4, k4⟩ := ec_looks (n := n) (o := o) hl hi s3 (FT_CL (FR_FT f3) hL) t0 b4 t1 r1 r16 (fun b hb => by
    have := hrm b 0 (by omega) (by omega)
    rw [i32_lt, show (1000000000 : Int32).toInt = 1000000000 from by decide]
    have := this.2
    omega)
  have hL4 := FT_CL (FT_t (FR_FT f3) f4) hL
  -- grants
  obtain ⟨d5, e5, f5, s5⟩ := ec_grants (n := n) (o := o) (wk := ms_wk t p R) (wi := ms_wi t p C R) hl hi s4 hL4 t0 b4 p0 hS4 (fun b hb => by
    obtain ⟨k34, k35, k36, k33⟩ := k4 b hb
    have h1 := hrm b (ms_wk t p R b) (by omega) (ms_wk_lt r16)
    have h2 := hdb b (by omega)
    exact ⟨ms_wish_lt t p C b _, k35, ⟨by have := h1.1; omega, by have := h1.2; omega⟩, ⟨by have := h2.1; omega, by have := h2.2; omega⟩⟩)
  have hL5 := FT_CL (FT_t (FT_t (FR_FT f3) f4) (FR_FT f5)) hL
  -- acts
  obtain ⟨d6, e6, f6, g33, g37, s6⟩ := ec_acts (n := n) (o := o) hl hi s5 hL5 t0 b4 r16 (fun b hb => by
    unfold TKR
    rw [f5 34 0 (.inl (by decide)), f5 35 0 (.inl (by decide)), f5 36 0 (.inl (by decide)), f5 33 0 (.inl (by decide))]
    exact k4 b hb) hrow'
  have hL6 := FT_CL (FT_t (FT_t (FT_t (FR_FT f3) f4) (FR_FT f5)) f6) hL
  -- rows
  obtain ⟨d7, e7, f7, s7⟩ := ec_growRows (n := n) (o := o) (bd := fun c => ms_bound t p (c / 16) (c % 16)) (to := ms_to t p C R B S) hl hi s6 hL6 t0 b4 t1 r16 (fun b hb r hr => by
    rw [g33, f5 33 0 (.inl (by decide)), (k4 b hb).2.2.2 r hr]
    show _ = ms_bound t p ((16 * b + r) / 16) ((16 * b + r) % 16)
    rw [show (16 * b + r) / 16 = b by omega, show (16 * b + r) % 16 = r by omega]) (fun b hb => (g37 b hb).1)
  have hL7 := FT_CL (FT_t (FT_t (FT_t (FT_t (FR_FT f3) f4) (FR_FT f5)) f6) (FR_FT f7)) hL
  -- banks
  obtain ⟨d8, e8, f8, s8⟩ := ec_cools (n := n) (o := o) (sv := ms_sv t p C R B S) hl hi s7 (hL7.1.trans t0) b4 (fun b hb => by
    rw [f7 38 0 (.inl (by decide)), (g37 b hb).2]
    have hq := (ms_sv_to (t := t) (S := S) (B := B) (b := b) r16 hrow').1
    cases hsv : ms_sv t p C R B S b with
    | none => exact ⟨fun _ => rfl, fun _ => rfl⟩
    | some q => exact ⟨fun z => absurd z (ms_en_ne (f := q) (by have := (hq q hsv).1; omega)), fun z => by cases z⟩)
  have eq := ms_tick_eq (t := t) (p := p) (V0 := ms_wg t p (ms_wk t p R) (ms_wi t p C R) B S) (C := C) (S := S) b4 r16 hrow' (fun b r hb hr h => by
    unfold ms_to at h
    split at h
    · have : ms_wk t p R b < R := by
        unfold ms_wk
        rcases ms_weak_le t p b R with z | z <;> omega
      have := (ni_eq (by omega) (by omega)).mp h
      omega
    · split at h
      · exact absurd h.symm (ms_en_ne (by omega))
      · rename_i q hq
        obtain ⟨r', hr', e⟩ := hrow q (ms_wat_lt hq)
        rw [e] at h
        have := (ni_eq (by omega) (by omega)).mp h
        omega) (WG_wg b4) (fun k hk => by
    unfold ms_wg
    rw [ms_fs_n (fun b hb => (hk b hb).2), ms_fs_n (fun b hb => (hk b hb).1)]) (fun b hb => ⟨ms_wg6 hb, ms_wg7 hb⟩)
  simp only [] at eq
  obtain ⟨eq1, eq2⟩ := eq
  have c9 := CS_time (v := ms_cools (ev_u1 (mc_gw (mc_acts (ms_wg t p (ms_wk t p R) (ms_wi t p C R) B S) (ms_wi t p C R) (ms_sv t p C R B S) (ms_to t p C R B S) B) (fun c => ms_bound t p (c / 16) (c % 16)) (ms_to t p C R B S) R B) 14 (mc_gw (mc_acts (ms_wg t p (ms_wk t p R) (ms_wi t p C R) B S) (ms_wi t p C R) (ms_sv t p C R B S) (ms_to t p C R B S) B) (fun c => ms_bound t p (c / 16) (c % 16)) (ms_to t p C R B S) R B 14 + mc_gl (mc_acts (ms_wg t p (ms_wk t p R) (ms_wi t p C R) B S) (ms_wi t p C R) (ms_sv t p C R B S) (ms_to t p C R B S) B) (fun c => ms_bound t p (c / 16) (c % 16)) (ms_to t p C R B S) R B)) (ms_sv t p C R B S) B 8 + 1) s8
  have g8 := cs_tm s8
  rw [eq1] at c9
  refine ⟨_, K1, ?_, FT_t (FT_t (FT_t (FT_t (FT_t (FT_t (FR_FT f3) f4) (FR_FT f5)) f6) (FR_FT f7)) (FR_FT f8)) (FR_FT (FR_u3 (by decide))), c9, fun b hb => ?_⟩
  · refine e3 _ (e4 _ ?_)
    refine EV_bk (k := 400) ?_
    rw [bk_71_24, hl 32 0 0 rfl (by decide) (by decide), cond_true, hL4.1, t0, if_neg (fun z => by have := (ni_lt (by omega) (by omega)).mp z; omega), e5]
    simp only [ev_bv]
    refine e6 _ ?_
    refine EV_bk (k := 400) ?_
    rw [bk_71_69, hl 32 0 0 rfl (by decide) (by decide), cond_true, hL6.1, t0, if_neg (fun z => by have := (ni_lt (by omega) (by omega)).mp z; omega), e7]
    simp only [ev_bi]
    rw [e8]
    simp only [ev_bv, g8]
    rw [eq2, ← p14]
    generalize mc_gl (mc_acts (ms_wg t p (ms_wk t p R) (ms_wi t p C R) B S) (ms_wi t p C R) (ms_sv t p C R B S) (ms_to t p C R B S) B) (fun c => ms_bound t p (c / 16) (c % 16)) (ms_to t p C R B S) R B = L
    have : p 14 + L - p 14 = L := by
      rw [Int32.sub_eq_add_neg, Int32.add_comm (p 14) L, Int32.add_assoc, Int32.add_right_neg, Int32.add_zero]
    rw [this]
  · rw [u3n (by decide), u3n (by decide), f8 37 0 (.inl (by decide)), f8 38 0 (.inl (by decide)), f7 37 0 (.inl (by decide)), f7 38 0 (.inl (by decide))]
    exact g37 b hb
end EC16
