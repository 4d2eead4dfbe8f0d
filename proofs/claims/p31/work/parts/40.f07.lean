/-! THE LAW'S OWN MEMORY, 7: a plan trades -/
section LM7
variable {n : Nat} {lk : Nat → Nat → Nat → Bool} {d : Nat → Nat → Nat → Int32} {wn : Nat} {tt : Nat → Nat} {e : Nat → Nat → Nat → Int32} {q : Nat → Nat → Nat → Nat} {i : Nat} {t w u : Nat → Int32} {P : ev_O × ev_M → Prop}
/-- the reference to whom a bank gives -/
def lm_to (i : Nat) (f : Option Nat) : ev_V := match f with
  | none => ev_R 109 0
  | some k => ev_R 201 (i + 9 + 9 * k)
/-- for whom a hot bank trades -/
theorem lm_taker (hq : LQ q i) {B b : Nat} (hB : t 0 = Int32.ofNat B) (h4 : B ≤ 4) (h : LV e i t w u)
    (kk : ER (271, 225, [ev_R 200 i, ev_I (Int32.ofNat b), lm_to i (ms_tk w B), ev_I (Int32.ofNat B)], [], 0, 0) (n, lk, d, wn, tt, e, q) P) : ER (271, 153, [ev_R 200 i, ev_I (Int32.ofNat b), ev_R 109 0, ev_I (Int32.ofNat 0)], [], 0, 0) (n, lk, d, wn, tt, e, q) P := by
  have h0 : e 200 i 0 = Int32.ofNat B := (h _ _ _ _ _ (la_f (k := 0) (by omega))).trans hB
  have loop : ∀ j k, k + j = B → ER (271, 153, [ev_R 200 i, ev_I (Int32.ofNat b), lm_to i (ms_tk w k), ev_I (Int32.ofNat k)], [], 0, 0) (n, lk, d, wn, tt, e, q) P := by
    intro j
    induction j with
    | zero =>
      intro k hk
      have hkB : k = B := by omega
      subst hkB
      have hn : ¬ (Int32.ofNat k < Int32.ofNat k) := Int32.lt_irrefl
      cases hf : ms_tk w k with
      | none =>
        rw [hf] at kk
        refine ER_bk ?_
        show ∃ r, ev_bk 400 EV (271, 153, [ev_R 200 i, ev_I (Int32.ofNat b), ev_R 109 0, ev_I (Int32.ofNat k)], [], 0, 0) (n, lk, d, wn, tt, e, q) = some r ∧ P r
        rw [bk_271_153_a, h0, if_neg hn]
        exact kk
      | some f =>
        rw [hf] at kk
        refine ER_bk ?_
        show ∃ r, ev_bk 400 EV (271, 153, [ev_R 200 i, ev_I (Int32.ofNat b), ev_R 201 (i + 9 + 9 * f), ev_I (Int32.ofNat k)], [], 0, 0) (n, lk, d, wn, tt, e, q) = some r ∧ P r
        rw [bk_271_153_b, h0, if_neg hn]
        exact kk
    | succ j ih =>
      intro k hk
      have ih := ih (k + 1) (by omega)
      have hlt : Int32.ofNat k < Int32.ofNat B := (ni_lt (by omega) (by omega)).mpr (by omega)
      have k16 := hq.1.2.2.2.2.2.2.2
      have k9 := hq.1.1
      obtain ⟨k7, -⟩ := hq.2 k (by omega)
      have c0 : e 201 (i + 9 + 9 * k) 0 = w (19 + 9 * k + 0) := h _ _ _ _ _ (la_bk (by omega) (k := 0) (by omega))
      have c1 : e 202 (i + 1) 1 = w 1 := h _ _ _ _ _ (la_set (k := 1) (by omega))
      have ck : e 201 (i + 9 + 9 * k) 1 = w (19 + 9 * k + 1) := h _ _ _ _ _ (la_bk (by omega) (k := 1) (by omega))
      have hh := lm_hot (n := n) (lk := lk) (d := d) (wn := wn) (tt := tt) hq h (b := k) (by omega)
      have hs : ms_tk w (k + 1) = if ms_can w k then (match ms_tk w k with
        | none => some k
        | some f => if w (19 + 9 * k + 1) < w (19 + 9 * f + 1) then some k else some f) else ms_tk w k := rfl
      have next_a : ms_tk w (k + 1) = none → ER (271, 219, [ev_R 200 i, ev_I (Int32.ofNat b), ev_R 109 0, ev_I (Int32.ofNat k)], [], 0, 0) (n, lk, d, wn, tt, e, q) P := fun z => by
        rw [z] at ih
        refine ER_bk ?_
        rw [bk_271_219_b, ni_1]
        exact ih
      have next_b : ∀ f, ms_tk w (k + 1) = some f → ER (271, 219, [ev_R 200 i, ev_I (Int32.ofNat b), ev_R 201 (i + 9 + 9 * f), ev_I (Int32.ofNat k)], [], 0, 0) (n, lk, d, wn, tt, e, q) P := fun f z => by
        rw [z] at ih
        refine ER_bk ?_
        rw [bk_271_219_a, ni_1]
        exact ih
      cases hf : ms_tk w k with
      | none =>
        rw [hf] at hs
        refine ER_bk ?_
        show ∃ r, ev_bk 400 EV (271, 153, [ev_R 200 i, ev_I (Int32.ofNat b), ev_R 109 0, ev_I (Int32.ofNat k)], [], 0, 0) (n, lk, d, wn, tt, e, q) = some r ∧ P r
        rw [bk_271_153_a, h0, if_pos hlt]
        simp only [k16, k9, ev_lq_s, ni_in (n := k) (N := 4) (by omega) (by omega), ni_c (n := k) (by omega), cond_true, k7, hh, ev_bi, c0, c1]
        by_cases z1 : ms_hot w k
        · rw [if_pos z1, if_neg (by decide)]
          exact next_a (by rw [hs, if_neg (fun z => z.1 z1)])
        · rw [if_neg z1, if_pos rfl]
          by_cases z2 : w (19 + 9 * k + 0) < w 1
          · rw [if_pos z2]
            exact next_b k (by rw [hs, if_pos ⟨z1, z2⟩])
          · rw [if_neg z2]
            exact next_a (by rw [hs, if_neg (fun z => z2 z.2)])
      | some f =>
        rw [hf] at hs
        have hf4 := ms_tk_lt hf
        have cf : e 201 (i + 9 + 9 * f) 1 = w (19 + 9 * f + 1) := h _ _ _ _ _ (la_bk (by omega) (k := 1) (by omega))
        refine ER_bk ?_
        show ∃ r, ev_bk 400 EV (271, 153, [ev_R 200 i, ev_I (Int32.ofNat b), ev_R 201 (i + 9 + 9 * f), ev_I (Int32.ofNat k)], [], 0, 0) (n, lk, d, wn, tt, e, q) = some r ∧ P r
        rw [bk_271_153_b, h0, if_pos hlt]
        simp only [k16, k9, ev_lq_s, ni_in (n := k) (N := 4) (by omega) (by omega), ni_c (n := k) (by omega), cond_true, k7, hh, ev_bi, c0, c1, ck, cf]
        by_cases z1 : ms_hot w k
        · rw [if_pos z1, if_neg (by decide)]
          exact next_b f (by rw [hs, if_neg (fun z => z.1 z1)])
        · rw [if_neg z1, if_pos rfl]
          by_cases z2 : w (19 + 9 * k + 0) < w 1
          · rw [if_pos z2]
            rw [if_pos ⟨z1, z2⟩] at hs
            simp only [] at hs
            by_cases z3 : w (19 + 9 * k + 1) < w (19 + 9 * f + 1)
            · rw [if_pos z3]
              exact next_b k (by rw [hs, if_pos z3])
            · rw [if_neg z3]
              exact next_b f (by rw [hs, if_neg z3])
          · rw [if_neg z2]
            exact next_b f (by rw [hs, if_neg (fun z => z2 z.2)])
  exact loop B 0 (by omega)
theorem lm_trades (hq : LQ q i) {B : Nat} (hB : t 0 = Int32.ofNat B) (h4 : B ≤ 4) (h7 : w 7 = 0 ∨ w 7 = 1) (h : LV e i t w u)
    (kk : ∀ e', LV e' i t (if w 7 = 1 then ms_trades w B B else w) u → LF e e' i → ER (271, 248, [ev_R 200 i, ev_I (Int32.ofNat 0)], [], 0, 0) (n, lk, d, wn, tt, e', q) P) : ER (271, 105, [ev_R 200 i, ev_I (Int32.ofNat 0)], [], 0, 0) (n, lk, d, wn, tt, e, q) P := by
  have out : ∀ e' y, (LV e' i t (if w 7 = 1 then ms_trades w B B else w) u → LF e e' i → ER (271, 246, [ev_R 200 i, ev_I y], [], 0, 0) (n, lk, d, wn, tt, e', q) P) := fun e' y g1 g2 => by
    refine ER_bk ?_
    rw [bk_271_246]
    exact kk e' g1 g2
  have h0 : e 200 i 0 = Int32.ofNat B := (h _ _ _ _ _ (la_f (k := 0) (by omega))).trans hB
  have h8 : e 200 i 8 = w 7 := h _ _ _ _ _ la_trad
  by_cases zB : B = 0
  · subst zB
    refine ER_bk ?_
    rw [bk_271_105, h0, if_neg (by decide)]
    refine out e _ ?_ (LF.rf e i)
    have : (if w 7 = 1 then ms_trades w 0 0 else w) = w := by split <;> rfl
    rw [this]
    exact h
  by_cases z7 : w 7 = 1
  · rw [if_pos z7] at out
    have loop : ∀ j b, b + j = B → ∀ e', LV e' i t (ms_trades w B b) u → LF e e' i → ER (271, 105, [ev_R 200 i, ev_I (Int32.ofNat b)], [], 0, 0) (n, lk, d, wn, tt, e', q) P := by
      intro j
      induction j with
      | zero =>
        intro b hb e' g1 g2
        have hbB : b = B := by omega
        subst hbB
        have c0 : e' 200 i 0 = Int32.ofNat b := (g1 _ _ _ _ _ (la_f (k := 0) (by omega))).trans hB
        refine ER_bk ?_
        rw [bk_271_105, c0, if_neg (fun z => by have := (ni_lt (by omega) (by omega)).mp z; omega)]
        exact out e' _ g1 g2
      | succ j ih =>
        intro b hb e' g1 g2
        have ih := ih (b + 1) (by omega)
        have c0 : e' 200 i 0 = Int32.ofNat B := (g1 _ _ _ _ _ (la_f (k := 0) (by omega))).trans hB
        have c8 : e' 200 i 8 = 1 := ((g1 _ _ _ _ _ la_trad).trans (ms_trades_lo w B (by omega) b)).trans z7
        have k16 := hq.1.2.2.2.2.2.2.2
        obtain ⟨k7, -⟩ := hq.2 b (by omega)
        have cd : e' 201 (i + 9 + 9 * b) 0 = ms_trades w B b (19 + 9 * b + 0) := g1 _ _ _ _ _ (la_bk (by omega) (k := 0) (by omega))
        have hh := lm_hot (n := n) (lk := lk) (d := d) (wn := wn) (tt := tt) hq g1 (b := b) (by omega)
        have hs : ms_trades w B (b + 1) = if ms_hot (ms_trades w B b) b ∧ 0 < ms_trades w B b (19 + 9 * b + 0) then (match ms_tk (ms_trades w B b) B with
          | none => ms_trades w B b
          | some k => ms_moves (ms_trades w B b) b k) else ms_trades w B b := rfl
        have next : ∀ e2, LV e2 i t (ms_trades w B (b + 1)) u → LF e e2 i → ER (271, 240, [ev_R 200 i, ev_I (Int32.ofNat b)], [], 0, 0) (n, lk, d, wn, tt, e2, q) P := fun e2 a1 a2 => by
          refine ER_bk ?_
          rw [bk_271_240, ni_1]
          exact ih e2 a1 a2
        refine ER_bk ?_
        rw [bk_271_105, c0, if_pos ((ni_lt (by omega) (by omega)).mpr (by omega)), c8, if_neg (by decide)]
        simp only [k16, ev_lq_s, ni_in (n := b) (N := 4) (by omega) (by omega), ni_c (n := b) (by omega), cond_true, k7, hh, ev_bi, cd]
        by_cases z1 : ms_hot (ms_trades w B b) b
        · rw [if_pos z1, if_neg (by decide)]
          by_cases z2 : ms_trades w B b (19 + 9 * b + 0) < 1
          · rw [if_pos z2]
            rw [if_neg (fun z => by
              have := z.2
              rw [i32_lt] at this z2
              have a0 : (0 : Int32).toInt = 0 := by decide
              have a1 : (1 : Int32).toInt = 1 := by decide
              omega)] at hs
            exact next e' (by rw [hs]; exact g1) g2
          · rw [if_neg z2]
            have z3 : 0 < ms_trades w B b (19 + 9 * b + 0) := by
              rw [i32_lt] at z2 ⊢
              have a0 : (0 : Int32).toInt = 0 := by decide
              have a1 : (1 : Int32).toInt = 1 := by decide
              omega
            rw [if_pos ⟨z1, z3⟩] at hs
            refine lm_taker hq hB h4 g1 ?_
            cases hf : ms_tk (ms_trades w B b) B with
            | none =>
              rw [hf] at hs
              refine ER_bk ?_
              show ∃ r, ev_bk 400 EV (271, 225, [ev_R 200 i, ev_I (Int32.ofNat b), ev_R 109 0, ev_I (Int32.ofNat B)], [], 0, 0) (n, lk, d, wn, tt, e', q) = some r ∧ P r
              rw [bk_271_225_a]
              exact next e' (by rw [hs]; exact g1) g2
            | some k =>
              rw [hf] at hs
              have hk := ms_tk_lt hf
              obtain ⟨e1, a1, a2, a3⟩ := lm_move (n := n) (lk := lk) (d := d) (wn := wn) (tt := tt) hq g1 (b := b) (k := k) (by omega) (by omega)
              refine ER_bk ?_
              show ∃ r, ev_bk 400 EV (271, 225, [ev_R 200 i, ev_I (Int32.ofNat b), ev_R 201 (i + 9 + 9 * k), ev_I (Int32.ofNat B)], [], 0, 0) (n, lk, d, wn, tt, e', q) = some r ∧ P r
              rw [bk_271_225_b]
              simp only [k16, ev_lq_s, ni_in (n := b) (N := 4) (by omega) (by omega), ni_c (n := b) (by omega), cond_true, k7, a1, ev_bv]
              exact next e1 (by rw [hs]; exact a2) (g2.tr a3)
        · rw [if_neg z1, if_pos rfl]
          rw [if_neg (fun z => z1 z.1)] at hs
          exact next e' (by rw [hs]; exact g1) g2
    exact loop B 0 (by omega) e h (LF.rf e i)
  · have z0 : w 7 = 0 := h7.resolve_right z7
    refine ER_bk ?_
    rw [bk_271_105, h0, if_pos ((ni_lt (a := 0) (by omega) (by omega)).mpr (by omega)), h8, if_pos z0]
    exact out e _ (by rw [if_neg z7]; exact h) (LF.rf e i)
end LM7
