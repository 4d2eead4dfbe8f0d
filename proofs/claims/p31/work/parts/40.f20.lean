/-! THE LAW'S OWN MEMORY, 20: a tick, and ticks -/
theorem u1_back {w : Nat → Int32} {a : Nat} {x : Int32} : ev_u1 (ev_u1 w a x) a (w a) = w := by
  funext k
  by_cases e : k = a
  · subst e
    rw [u1s]
  · rw [u1n e, u1n e]
section LM20
variable {n : Nat} {lk : Nat → Nat → Nat → Bool} {d : Nat → Nat → Nat → Int32} {wn : Nat} {tt : Nat → Nat} {e : Nat → Nat → Nat → Int32} {q : Nat → Nat → Nat → Nat} {i : Nat} {t u w : Nat → Int32} {P : ev_O × ev_M → Prop}
/-- the Memory at i is that of t and w -/
def LM (e : Nat → Nat → Nat → Int32) (i : Nat) (t w : Nat → Int32) (B R C T τ : Nat) : Prop := ∃ u K, LV e i t w u ∧ SI w B R C T τ ∧ w 9 = Int32.ofNat C ∧ QR w u C ∧ HO w C K ∧ BL w ∧ HE w τ
theorem lm_step (hq : LQ q i) {B R C T τ S : Nat} (hT : TC t B R) (hτ : τ + 1 ≤ 3000) (hS : w 0 = Int32.ofNat S) (hS4 : S ≤ 4) (hM : LM e i t w B R C T τ) :
    ∃ e', EV (273, 0, [ev_R 200 i], [], 0, 0) (n, lk, d, wn, tt, e, q) = some (.inl (some (ev_I (ms_tick t w C R B S 14 - w 14))), (n, lk, d, wn, tt, e', q)) ∧ LM e' i t (ms_tick t w C R B S) B R C T (τ + 1) ∧ LF e e' i := by
  obtain ⟨u, K, h, hI, hC, hr, hk, hBL, hHE⟩ := hM
  obtain ⟨⟨t0, t1, b1, b4, r1, h16⟩, -⟩ := id hT
  obtain ⟨⟨c1, c2, c3⟩, c4, -⟩ := id hI
  have hrow : ∀ q, q < C → ∃ r, r < 16 ∧ w (375 + 6 * q + 1) = Int32.ofNat r := fun q hq => by
    obtain ⟨-, r, hr, e⟩ := c4 q hq
    exact ⟨r, by omega, e⟩
  obtain ⟨e1, u1, K1, x1, x2, x3, x4, x5, x6⟩ := lm_plan (n := n) (lk := lk) (d := d) (wn := wn) (tt := tt) hq hT hI hC hS hS4 hr hk h
  generalize hX : ms_pre t w C B = X at x1 x2 x4 x5 x6
  have hXn : ∀ k, k < 375 → k ≠ 10 → k ≠ 11 → k ≠ 15 → (∀ b, b < 4 → k ≠ 19 + 9 * b + 0 ∧ k ≠ 19 + 9 * b + 4 ∧ k ≠ 19 + 9 * b + 5) → X k = w k := fun k a1 a2 a3 a4 a5 => by
    rw [← hX, ms_pre_n b4 a3 a4 a5, ms_asked_lo w a1 a2]
  have hrow2 : ∀ q, q < C → ∃ r, r < 16 ∧ X (375 + 6 * q + 1) = Int32.ofNat r := fun q hq => by
    rw [← hX, ms_pre_q1 (k := 1) (by omega) b4]
    exact hrow q hq
  have hTS : ms_TS B (ms_sv t X C R B S) (ms_to t X C R B S) := fun b hb => by
    obtain ⟨s1, s2⟩ := ms_sv_to (t := t) (w := X) (C := C) (R := R) (B := B) (S := S) (b := b) h16 hrow2
    exact ⟨s2, fun q hq => (s1 q hq).2⟩
  generalize hW : ms_wg t X (ms_wk t X R) (ms_wi t X C R) B S = W at x2
  have hWS : W = SE X (fun b => Int32.ofNat (ms_wi t X C R b)) (fun b => ms_b01 (ms_gg t X C R B S b)) B := by
    rw [← hW, SE_fs B]
    rfl
  have hWn : ∀ k, (∀ b, b < 4 → k ≠ 19 + 9 * b + 6 ∧ k ≠ 19 + 9 * b + 7) → W k = X k := fun k hk => by
    rw [← hW]
    unfold ms_wg
    rw [ms_fs_n (fun b hb => (hk b (by omega)).2), ms_fs_n (fun b hb => (hk b (by omega)).1)]
  have hWw : ∀ k, k < 375 → k ≠ 10 → k ≠ 11 → k ≠ 15 → (∀ b, b < 4 → k ≠ 19 + 9 * b + 0 ∧ k ≠ 19 + 9 * b + 4 ∧ k ≠ 19 + 9 * b + 5 ∧ k ≠ 19 + 9 * b + 6 ∧ k ≠ 19 + 9 * b + 7) → W k = w k := fun k a1 a2 a3 a4 a5 => by
    rw [hWn k (fun b hb => ⟨(a5 b hb).2.2.2.1, (a5 b hb).2.2.2.2⟩), hXn k a1 a2 a3 a4 (fun b hb => ⟨(a5 b hb).1, (a5 b hb).2.1, (a5 b hb).2.2.1⟩)]
  have htick : ms_tick t w C R B S = ms_end (mb t W R (ms_to t X C R B S) (ms_was X (ms_wi t X C R) (ms_gg t X C R B S) (ms_sv t X C R B S) (ms_to t X C R B S)) (ms_sv t X C R B S) (ms_wi t X C R) B) := by
    unfold ms_tick
    rw [hX, grow_mb hTS b4 h16 B (Nat.le_refl B), ← mb_SE hTS b4 h16 b4 B (Nat.le_refl B), ← hWS]
  have hQW : QR W u1 C := x4.hi (fun k hk => hWn k (fun b hb => ⟨by omega, by omega⟩)) (fun b' hb' => ⟨rfl, fun j hj => rfl⟩)
  have hwat : ∀ b, b < 4 → ms_wat W b C 0 (-1) = ms_wat X b C 0 (-1) := fun b hb => wat_keep x4 hb (fun q hq => by unfold ms_wt; rw [hWn _ (fun b hb => ⟨by omega, by omega⟩), hWn _ (fun b hb => ⟨by omega, by omega⟩), hWn _ (fun b hb => ⟨by omega, by omega⟩)]) (fun q hq _ => hWn _ (fun b hb => ⟨by omega, by omega⟩))
  have h14 : W 14 = w 14 := hWw 14 (by omega) (by omega) (by omega) (by omega) (fun b hb => ⟨by omega, by omega, by omega, by omega, by omega⟩)
  suffices key : ER (273, 0, [ev_R 200 i], [], 0, 0) (n, lk, d, wn, tt, e, q) (fun r => ∃ e', r = (.inl (some (ev_I (ms_tick t w C R B S 14 - w 14))), (n, lk, d, wn, tt, e', q)) ∧ LM e' i t (ms_tick t w C R B S) B R C T (τ + 1) ∧ LF e e' i) by
    obtain ⟨r, h1, e', h2, h3⟩ := key
    exact ⟨e', by rw [h1, h2], h3⟩
  refine ER_bk ?_
  rw [bk_273_0, x1]
  simp only [ev_bv]
  refine lm_banks (wi := ms_wi t X C R) (hot := ms_was X (ms_wi t X C R) (ms_gg t X C R B S) (ms_sv t X C R B S) (ms_to t X C R B S)) (W := W) (τ := τ) hq hT c2 (by omega) hTS (fun c hc => ?_) ⟨?_, fun b hb => ?_⟩ (fun b p hb hp => ?_) (fun b hb => ⟨ms_wish_lt _ _ _ _ _, ?_⟩) (fun b hb => ?_) x6 hQW (x5.hi (fun k hk => hWn k (fun b hb => ⟨by omega, by omega⟩)) (hWn 10 (fun b hb => ⟨by omega, by omega⟩))) x2 fun e2 u2 y2 a1 a2 a3 a4 a5 a6 a7 => ?_
  · rw [hWw _ (by omega) (by omega) (by omega) (by omega) (fun b hb => ⟨by omega, by omega, by omega, by omega, by omega⟩)]
    exact hBL c hc
  · rw [hWw _ (by omega) (by omega) (by omega) (by omega) (fun b hb => ⟨by omega, by omega, by omega, by omega, by omega⟩)]
    exact hHE.1
  · rw [hWw _ (by omega) (by omega) (by omega) (by omega) (fun b hb => ⟨by omega, by omega, by omega, by omega, by omega⟩)]
    exact hHE.2 b hb
  · rw [hwat b (by omega)]
    have hp' := hp
    unfold ms_sv at hp'
    split at hp'
    · cases hp'
    · exact hp'
  · rw [← hW]
    exact ms_wg6 hb
  · rw [was_w hTS b4 hb]
    have e := hot_AG (V := W) (V' := X) (b := b) (hWn _ (fun b hb => ⟨by omega, by omega⟩)) (hWn _ (fun b hb => ⟨by omega, by omega⟩))
    by_cases c : ms_hot X b
    · rw [if_pos c, if_pos (e.mpr c)]
    · rw [if_neg c, if_neg (fun z => c (e.mp z))]
  · generalize mb t W R (ms_to t X C R B S) (ms_was X (ms_wi t X C R) (ms_gg t X C R B S) (ms_sv t X C R B S) (ms_to t X C R B S)) (ms_sv t X C R B S) (ms_wi t X C R) B = Y at htick a1 a3 a4 a5 a6 a7
    have f3 : e2 203 (i + 2) 3 = W 14 := (a1 _ _ _ _ _ (la_acc (k := 3) (by omega))).trans (u1s _ _ _)
    have f4 : e2 200 i 4 = Y 8 := a1.r14 la_time (by omega)
    have hsum : W 14 + (Y 14 - W 14) = Y 14 := by rw [Int32.add_comm, Int32.sub_add_cancel]
    refine ER_bk ?_
    rw [bk_273_403, hq.1.2.1, ev_lq_s, f3, f4, a3, hsum]
    have p1 := a1.put0 (la_acc (k := 3) (by omega)) (v := Y 14)
    have p2 := p1.put0 la_time (v := Y 8 + 1)
    have hv : ev_u1 (ev_u1 (ev_u1 Y 14 (W 14)) (11 + 3) (Y 14)) 8 (Y 8 + 1) = ms_end Y := congrArg (fun z => ev_u1 z 8 (Y 8 + 1)) (u1_back (w := Y) (a := 14) (x := W 14))
    rw [hv, ← htick] at p2
    have en : ∀ k, k ≠ 8 → ms_tick t w C R B S k = Y k := fun k hk => by
      rw [htick]
      exact u1n hk
    refine ⟨_, rfl, _, ?_, ⟨u2, K1, p2, SI_tick hT hI hτ, ?_, a4.hi (fun k hk => en k (by omega)) (fun b hb => ⟨rfl, fun j hj => rfl⟩), a5.hi (fun k hk => en k (by omega)) (en 10 (by omega)), fun c hc => ?_, ?_, fun b hb => ?_⟩, x3.tr (a2.tr (((LF.rf e2 i).put (la_acc (k := 3) (by omega))).put la_time))⟩
    · rw [en 14 (by omega), h14]
    · rw [ms_tick_k (k := 9) (.inr (.inl rfl)) b4 h16 hrow]
      exact hC
    · rw [en _ (by omega)]
      exact a6 c hc
    · rw [en _ (by omega)]
      exact a7.1
    · rw [en _ (by omega)]
      exact a7.2 b hb
theorem lm_steps (hq : LQ q i) {B R C T S : Nat} (hT : TC t B R) (hS4 : S ≤ 4) : ∀ {k τ : Nat}, τ + k ≤ 3000 → ∀ {e : Nat → Nat → Nat → Int32} {w : Nat → Int32}, w 0 = Int32.ofNat S → LM e i t w B R C T τ →
    ∃ e', EV (274, 0, [ev_R 200 i, ev_I (Int32.ofNat k)], [], 0, 0) (n, lk, d, wn, tt, e, q) = some (.inl (some (ev_I (ms_ticks t w C R B S k 14 - w 14))), (n, lk, d, wn, tt, e', q)) ∧ LM e' i t (ms_ticks t w C R B S k) B R C T (τ + k) ∧ LF e e' i := by
  intro k τ hτ e w hS hM
  have loop : ∀ j p, p + j = k → ∀ τ (e' : Nat → Nat → Nat → Int32) (v : Nat → Int32) (y : Int32), τ + j ≤ 3000 → v 0 = Int32.ofNat S → LM e' i t v B R C T τ →
      ∃ e'', EV (274, 4, [ev_R 200 i, ev_I (Int32.ofNat k), ev_I y, ev_I (Int32.ofNat p)], [], 0, 0) (n, lk, d, wn, tt, e', q) = some (.inl (some (ev_I (y + (ms_ticks t v C R B S j 14 - v 14)))), (n, lk, d, wn, tt, e'', q)) ∧ LM e'' i t (ms_ticks t v C R B S j) B R C T (τ + j) ∧ LF e' e'' i := by
    intro j
    induction j with
    | zero =>
      intro p hp τ e' v y h1 h2 h3
      have hpk : p = k := by omega
      subst hpk
      have e0 : y + (ms_ticks t v C R B S 0 14 - v 14) = y := by
        show y + (v 14 - v 14) = y
        rw [Int32.sub_self, Int32.add_zero]
      refine ⟨e', EV_bk (k := 400) ?_, h3, LF.rf e' i⟩
      rw [bk_274_4, if_neg (fun z => Int32.lt_irrefl z), e0]
    | succ j ih =>
      intro p hp τ e' v y h1 h2 h3
      obtain ⟨e1, x1, x2, x3⟩ := lm_step (n := n) (lk := lk) (d := d) (wn := wn) (tt := tt) hq hT (by omega) h2 hS4 h3
      have h16 : R ≤ 16 := hT.1.2.2.2.2.2
      have b4 : B ≤ 4 := hT.1.2.2.2.1
      obtain ⟨u, K, -, hI, -⟩ := id h3
      have hrow : ∀ q, q < C → ∃ r, r < 16 ∧ v (375 + 6 * q + 1) = Int32.ofNat r := fun q hq => by
        obtain ⟨-, r, hr, e⟩ := hI.2.1 q hq
        exact ⟨r, by omega, e⟩
      have h2' : ms_tick t v C R B S 0 = Int32.ofNat S := by
        rw [ms_tick_k (k := 0) (.inl (by omega)) b4 h16 hrow]
        exact h2
      obtain ⟨e2, y1, y2, y3⟩ := ih (p + 1) (by omega) (τ + 1) e1 (ms_tick t v C R B S) (y + (ms_tick t v C R B S 14 - v 14)) (by omega) h2' x2
      have es : y + (ms_tick t v C R B S 14 - v 14) + (ms_ticks t (ms_tick t v C R B S) C R B S j 14 - ms_tick t v C R B S 14) = y + (ms_ticks t v C R B S (j + 1) 14 - v 14) := by
        show _ = y + (ms_ticks t (ms_tick t v C R B S) C R B S j 14 - v 14)
        generalize ms_tick t v C R B S 14 = a1
        rw [Int32.add_assoc, Int32.sub_eq_add_neg a1 (v 14), Int32.add_comm a1 (-v 14), Int32.add_assoc, Int32.add_comm a1 (_ - a1), Int32.sub_add_cancel, Int32.add_comm (-v 14), ← Int32.sub_eq_add_neg]
      refine ⟨e2, EV_bk (k := 400) ?_, ?_, x3.tr y3⟩
      · rw [bk_274_4, if_pos ((ni_lt (by omega) (by omega)).mpr (by omega)), x1]
        simp only [ev_bi, ni_1]
        rw [y1, es]
      · rw [show τ + (j + 1) = τ + 1 + j by omega]
        exact y2
  obtain ⟨e', h1, h2, h3⟩ := loop k 0 (by omega) τ e w 0 hτ hS hM
  refine ⟨e', EV_bk (k := 400) ?_, h2, h3⟩
  rw [bk_274_0]
  rw [Int32.zero_add] at h1
  exact h1
end LM20
