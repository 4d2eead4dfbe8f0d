/-! THE LAW'S OWN MEMORY, 6: a plan begins -/
/-- a run that ends as P says -/
def ER (f : ev_F) (μ : ev_M) (P : ev_O × ev_M → Prop) : Prop := ∃ r, EV f μ = some r ∧ P r
theorem ER_bk {f : ev_F} {μ : ev_M} {P : ev_O × ev_M → Prop} (h : ∃ r, ev_bk 400 EV f μ = some r ∧ P r) : ER f μ P := by
  obtain ⟨r, h1, h2⟩ := h
  exact ⟨r, EV_bk h1, h2⟩
section LM6
variable {n : Nat} {lk : Nat → Nat → Nat → Bool} {d : Nat → Nat → Nat → Int32} {wn : Nat} {tt : Nat → Nat} {e : Nat → Nat → Nat → Int32} {q : Nat → Nat → Nat → Nat} {i : Nat} {t w u : Nat → Int32} {P : ev_O × ev_M → Prop}
/-- u but for what a plan writes -/
def UB (u u' : Nat → Int32) : Prop := ∀ b, b < 4 → u' (5 * b + 4) = u (5 * b + 4)
theorem lm_asked (hq : LQ q i) {C K : Nat} (h40 : C ≤ 40) (hC : w 9 = Int32.ofNat C) (hbk : ∀ p, p < C → ∃ b, b < 4 ∧ w (375 + 6 * p + 0) = Int32.ofNat b) (h : LV e i t w u) (hr : QR w u C) (hk : HO w C K)
    (kk : ∀ e' u' K', LV e' i t (ms_asked w C) u' → LF e e' i → QR (ms_asked w C) u' C → HO (ms_asked w C) C K' → ER (271, 45, [ev_R 200 i, ev_I (Int32.ofNat 0)], [], 0, 0) (n, lk, d, wn, tt, e', q) P) : ER (271, 0, [ev_R 200 i], [], 0, 0) (n, lk, d, wn, tt, e, q) P := by
  have loop : ∀ j p, p + j = C → ∀ e' u' K', LV e' i t (ms_asked w p) u' → LF e e' i → QR (ms_asked w p) u' C → HO (ms_asked w p) C K' → ER (271, 2, [ev_R 200 i, ev_I (Int32.ofNat p)], [], 0, 0) (n, lk, d, wn, tt, e', q) P := by
    intro j
    induction j with
    | zero =>
      intro p hp e' u' K' h1 h2 h3 h4
      have hpC : p = C := by omega
      subst hpC
      have c5 : e' 200 i 5 = Int32.ofNat p := (h1 _ _ _ _ _ la_reqs).trans ((ms_asked_lo w (by omega) (by omega) p).trans hC)
      refine ER_bk ?_
      rw [bk_271_2, c5, if_neg (fun z => by have := (ni_lt (by omega) (by omega)).mp z; omega)]
      refine ER_bk ?_
      rw [bk_271_43]
      exact kk e' u' K' h1 h2 h3 h4
    | succ j ih =>
      intro p hp e' u' K' h1 h2 h3 h4
      have hpC : p < C := by omega
      have c5 : e' 200 i 5 = Int32.ofNat C := (h1 _ _ _ _ _ la_reqs).trans ((ms_asked_lo w (by omega) (by omega) p).trans hC)
      have c3 : e' 204 (i + 6) p = ms_asked w p (375 + 6 * p + 3) := h1 _ _ _ _ _ (la_rq (x := 3) (by omega) (by omega))
      have c2 : e' 204 (i + 5) p = ms_asked w p (375 + 6 * p + 2) := h1 _ _ _ _ _ (la_rq (x := 2) (by omega) (by omega))
      have c4 : e' 200 i 4 = ms_asked w p 8 := h1 _ _ _ _ _ la_time
      have ih := ih (p + 1) (by omega)
      have hs : ms_asked w (p + 1) = if ms_asked w p (375 + 6 * p + 3) = 0 ∧ ms_asked w p (375 + 6 * p + 2) = ms_asked w p 8 then ms_come (ms_asked w p) p else ms_asked w p := rfl
      obtain ⟨-, -, -, -, k13, k14, -⟩ := hq.1
      refine ER_bk ?_
      rw [bk_271_2, c5, if_pos ((ni_lt (by omega) (by omega)).mpr hpC)]
      simp only [k13, k14, ev_lq_s, ni_in (n := p) (N := 40) (by omega) (by omega), ni_c (n := p) (by omega), cond_true, c3, c2, c4, ni_1]
      by_cases z1 : ms_asked w p (375 + 6 * p + 3) = 0
      · rw [if_pos z1]
        by_cases z2 : ms_asked w p (375 + 6 * p + 2) = ms_asked w p 8
        · rw [if_pos ⟨z1, z2⟩] at hs
          rw [if_pos z2]
          obtain ⟨b, hb, hw⟩ := hbk p hpC
          have hw := (ms_asked_hi (w := w) (p := p) (x := 0) (by omega) (Nat.le_refl p)).trans hw
          obtain ⟨l, hl, hll, fin⟩ := h3.come h4 hpC z1 hb hw
          obtain ⟨e1, u1, g1, g2, g3, g4, g5⟩ := lm_come (n := n) (lk := lk) (d := d) (wn := wn) (tt := tt) hq h1 hb (by omega) hw hl hll
          rw [g1]
          refine ih e1 u1 (K' + 1) ?_ (h2.tr g3) ?_ ?_
          · rw [hs]; exact g2
          · rw [hs]; exact fin u1 g4 g5
          · rw [hs]; exact h4.come hpC z1
        · rw [if_neg (fun z => z2 z.2)] at hs
          rw [if_neg z2]
          rw [hs] at ih
          exact ih e' u' K' h1 h2 h3 h4
      · rw [if_neg (fun z => z1 z.1)] at hs
        rw [if_neg z1]
        rw [hs] at ih
        exact ih e' u' K' h1 h2 h3 h4
  refine ER_bk ?_
  rw [bk_271_0]
  exact loop C 0 (by omega) e u K h (LF.rf e i) hr hk
theorem lm_debts (hq : LQ q i) {B τ : Nat} (hB : t 0 = Int32.ofNat B) (h4 : B ≤ 4) (h3 : t 3 ≠ 0) (h8 : w 8 = Int32.ofNat τ) (hτ : τ ≤ 3000) (h : LV e i t w u)
    (kk : ∀ e', LV e' i t (ms_debts t w B) u → LF e e' i → ER (271, 105, [ev_R 200 i, ev_I (Int32.ofNat 0)], [], 0, 0) (n, lk, d, wn, tt, e', q) P) : ER (271, 45, [ev_R 200 i, ev_I (Int32.ofNat 0)], [], 0, 0) (n, lk, d, wn, tt, e, q) P := by
  have out : ∀ e' y, (LV e' i t (ms_debts t w B) u → LF e e' i → ER (271, 103, [ev_R 200 i, ev_I y], [], 0, 0) (n, lk, d, wn, tt, e', q) P) := fun e' y g1 g2 => by
    refine ER_bk ?_
    rw [bk_271_103]
    exact kk e' g1 g2
  have h0 : e 200 i 0 = Int32.ofNat B := (h _ _ _ _ _ (la_f (k := 0) (by omega))).trans hB
  have h1 : e 200 i 4 = w 8 := h _ _ _ _ _ la_time
  have h2 : e 200 i 3 = t 3 := h _ _ _ _ _ (la_f (k := 3) (by omega))
  by_cases zB : B = 0
  · subst zB
    refine ER_bk ?_
    rw [bk_271_45, h0, if_neg (by decide)]
    refine out e _ ?_ (LF.rf e i)
    have : ms_debts t w 0 = w := by
      unfold ms_debts ms_dl
      repeat' split
      all_goals rfl
    rw [this]
    exact h
  by_cases z8 : w 8 = 0
  · have hd : ms_debts t w B = w := by
      unfold ms_debts
      rw [if_pos z8]
    refine ER_bk ?_
    rw [bk_271_45, h0, if_pos ((ni_lt (a := 0) (by omega) (by omega)).mpr (by omega)), h1, z8, if_pos (Int32.le_refl 0)]
    exact out e _ (by rw [hd]; exact h) (LF.rf e i)
  · have z8' : ¬ (w 8 ≤ 0) := fun z => by
      rw [h8] at z z8
      have := (ni_le (a := τ) (b := 0) (by omega) (by omega)).mp z
      exact z8 (by rw [show τ = 0 by omega]; rfl)
    by_cases zd : w 8 - w 8 / t 3 * t 3 = 0
    · have hd : ms_debts t w B = ms_dl w B := by
        unfold ms_debts
        rw [if_neg z8, if_pos zd]
      have loop : ∀ j b, b + j = B → ∀ e', LV e' i t (ms_dl w b) u → LF e e' i → ER (271, 45, [ev_R 200 i, ev_I (Int32.ofNat b)], [], 0, 0) (n, lk, d, wn, tt, e', q) P := by
        intro j
        induction j with
        | zero =>
          intro b hb e' g1 g2
          have hbB : b = B := by omega
          subst hbB
          have c0 : e' 200 i 0 = Int32.ofNat b := (g1 _ _ _ _ _ (la_f (k := 0) (by omega))).trans hB
          refine ER_bk ?_
          rw [bk_271_45, c0, if_neg (fun z => by have := (ni_lt (by omega) (by omega)).mp z; omega)]
          exact out e' _ (by rw [hd]; exact g1) g2
        | succ j ih =>
          intro b hb e' g1 g2
          have c0 : e' 200 i 0 = Int32.ofNat B := (g1 _ _ _ _ _ (la_f (k := 0) (by omega))).trans hB
          have c1 : e' 200 i 4 = w 8 := (g1 _ _ _ _ _ la_time).trans (ms_dl_lo (by omega) (by omega) b)
          have c2 : e' 200 i 3 = t 3 := g1 _ _ _ _ _ (la_f (k := 3) (by omega))
          have c3 : e' 201 (i + 9 + 9 * b) 0 = ms_dl w b (19 + 9 * b + 0) := g1 _ _ _ _ _ (la_bk (by omega) (k := 0) (by omega))
          have c4 : e' 203 (i + 2) 0 = ms_dl w b 11 := g1 _ _ _ _ _ (la_acc (k := 0) (by omega))
          obtain ⟨-, k10, -, -, -, -, -, k16⟩ := hq.1
          obtain ⟨k7, -⟩ := hq.2 b (by omega)
          refine ER_bk ?_
          rw [bk_271_45, c0, if_pos ((ni_lt (by omega) (by omega)).mpr (by omega)), c1, if_neg z8', c2, if_neg h3, if_pos zd]
          simp only [k10, k16, ev_lq_s, ni_in (n := b) (N := 4) (by omega) (by omega), ni_c (n := b) (by omega), cond_true, k7, c3, c4, ni_1]
          refine ih (b + 1) (by omega) _ ?_ ((g2.put (la_bk (b := b) (by omega) (k := 0) (by omega))).put (la_acc (k := 0) (by omega)))
          have e11 : ms_dl w b 11 + 1 = ev_u1 (ms_dl w b) (19 + 9 * b + 0) (ms_dl w b (19 + 9 * b + 0) + 1) 11 + 1 := by rw [u1n (by omega)]
          exact (g1.put0 (la_bk (b := b) (by omega) (k := 0) (by omega))).put0 (la_acc (k := 0) (by omega))
      exact loop B 0 (by omega) e h (LF.rf e i)
    · have hd : ms_debts t w B = w := by
        unfold ms_debts
        rw [if_neg z8, if_neg zd]
      refine ER_bk ?_
      rw [bk_271_45, h0, if_pos ((ni_lt (a := 0) (by omega) (by omega)).mpr (by omega)), h1, if_neg z8', h2, if_neg h3, if_neg zd]
      exact out e _ (by rw [hd]; exact h) (LF.rf e i)
end LM6
