/-! THE LAW'S METHODS, 15: what changes, in the law's Memory -/
variable {σ : Int32}
theorem PW_w {w w' : Nat → Int32} {B R C : Nat} (h : PW w B R C) (hw : ∀ j, j < 615 → w' j = w j) (h4 : B ≤ 4) (h40 : C ≤ 40) : PW w' B R C := by
  refine ⟨fun b r hb hr hn => by rw [hw _ (by omega)]; exact h.1 b r hb hr hn, ?_, fun q hq => by rw [hw _ (by omega)]; exact h.2.2 q hq⟩
  exact WH_c h.2.1 (fun b hb => hw _ (by omega)) (hw _ (by omega)) (hw _ (by omega))
theorem LR_new {d d2 e : Nat → Nat → Nat → Int32} {w' : Nat → Int32} {i B R C T τ : Nat} (h44 : d 44 0 4 = 0 ∧ d 104 0 0 = σ) (h1 : GI d2) (h45x : d2 45 0 = d 45 0 ∧ d2 44 0 4 = d 44 0 4 ∧ d2 104 = d 104) (h46 : ∀ j, j < 615 → d2 46 0 j = w' j) (hT : TC (d 45 0) B R) (hM : LM e i (d 45 0) w' B R C T τ) (hP : PW w' B R C) (hR : R ≤ 6) (hC : C ≤ 39) : LR σ d2 e i B R C τ := by
  obtain ⟨h45, h44x, h104⟩ := h45x
  obtain ⟨u, K, -, hI, h9, -⟩ := id hM
  obtain ⟨T', hG⟩ := GB_of (C := C) (τ := τ) h1 (by rw [h45]; exact hT) (by rw [h46 9 (by omega)]; exact h9) (by omega) (by rw [h46 8 (by omega)]; exact hI.2.2.1.1) hI.2.2.1.2
  have hM2 : LM e i (d2 45 0) (d2 46 0) B R C T τ := by
    rw [h45]
    exact LM_w hM h46
  exact ⟨⟨hR, hC, h44x.trans h44.1, by rw [h104]; exact h44.2⟩, T', hG, LM_T hM2 hG.2.2.2.2.2.2, PW_w hP h46 hT.1.2.2.2.1 (by omega)⟩
/-- a call that changes, as the law makes it -/
theorem gc_call {a b : ev_F} {lk : Nat → Nat → Nat → Bool} {d : Nat → Nat → Nat → Int32} {v : Int32} {w' : Nat → Int32} (o : ev_W) (h : OPC a b lk d v w') : ∃ d2, GI d2 ∧ (d2 45 0 = d 45 0 ∧ d2 44 0 4 = d 44 0 4 ∧ d2 104 = d 104) ∧ (∀ j, j < 615 → d2 46 0 j = w' j) ∧ ∀ K : Int32 → ev_M → ev_T, ev_bi (EV a (384, lk, d, o)) ev_no (fun z μ1 => ev_gh (EV b μ1) μ1 (fun ν => K z ν)) = K v (384, lk, d2, o) := by
  obtain ⟨d1, d2, cr, g1, g2, g3, e1, e2⟩ := h 384 o (Nat.le_refl _)
  refine ⟨d2, g1, g2, g3, fun K => ?_⟩
  rw [e1, bi_ok, e2, gh_CR cr]
section CH1
variable {n : Nat} {lk : Nat → Nat → Nat → Bool} {d : Nat → Nat → Nat → Int32} {wn : Nat} {tt : Nat → Nat} {e : Nat → Nat → Nat → Int32} {q : Nat → Nat → Nat → Nat} {i B R C T τ : Nat} {t w : Nat → Int32}
theorem moves_n {b k j : Nat} (h : j ≠ 15) (h1 : j ≠ 19 + 9 * b + 0) (h2 : j ≠ 19 + 9 * b + 4) (h3 : j ≠ 19 + 9 * k + 0) (h4 : j ≠ 19 + 9 * k + 5) : ms_moves w b k j = w j := by
  unfold ms_moves
  rw [u1n h, u1n h4, u1n h3, u1n h2, u1n h1]
theorem LM_move (hq : LQ q i) (h : LM e i t w B R C T τ) {b k : Nat} (hb : b < 4) (hk : k < 4) (h1 : -(w 2) < w (19 + 9 * b + 0)) (h2 : w (19 + 9 * k + 0) < w 1) :
    ∃ e', EV (272, 0, [ev_R 200 i, ev_R 201 (i + 9 + 9 * b), ev_R 201 (i + 9 + 9 * k)], [], 0, 0) (n, lk, d, wn, tt, e, q) = some (.inl none, (n, lk, d, wn, tt, e', q)) ∧ LM e' i t (ms_moves w b k) B R C T τ ∧ LF e e' i := by
  obtain ⟨u, K, hV, hI, hC, hr, hK, hBL, h4, hHE⟩ := h
  obtain ⟨e', x1, x2, x3⟩ := lm_move (n := n) (lk := lk) (d := d) (wn := wn) (tt := tt) hq hV hb hk
  refine ⟨e', x1, ⟨u, K, x2, SI_moves hI hb hk h1 h2, by rw [moves_n (by omega) (by omega) (by omega) (by omega) (by omega)]; exact hC, hr.hi (fun j hj => moves_n (by omega) (by omega) (by omega) (by omega) (by omega)) (fun b hb => ⟨rfl, fun _ _ => rfl⟩), hK.hi (fun j hj => moves_n (by omega) (by omega) (by omega) (by omega) (by omega)) (moves_n (by omega) (by omega) (by omega) (by omega) (by omega)), fun c hc => ?_, ?_, fun x hx => ?_⟩, x3⟩
  · rw [moves_n (by omega) (by omega) (by omega) (by omega) (by omega)]
    exact hBL c hc
  · rw [moves_n (by omega) (by omega) (by omega) (by omega) (by omega)]
    exact h4
  · rw [moves_n (by omega) (by omega) (by omega) (by omega) (by omega)]
    exact hHE x hx
theorem PW_move (h : PW w B R C) {b k : Nat} (h4 : B ≤ 4) (hb : b < B) (hk : k < B) : PW (ms_moves w b k) B R C := by
  refine ⟨fun x r hx hr hn => ?_, WH_moves h.2.1 hb hk, fun q hq => ?_⟩
  · rw [moves_n (by omega) (by omega) (by omega) (by omega) (by omega)]
    exact h.1 x r hx hr hn
  · rw [moves_n (by omega) (by omega) (by omega) (by omega) (by omega)]
    exact h.2.2 q hq
theorem PW_lo (h : PW w B R C) {k : Nat} {v : Int32} (hk : k < 8) : PW (ev_u1 w k v) B R C :=
  ⟨fun x r hx hr hn => by rw [u1n (by omega)]; exact h.1 x r hx hr hn, WH_c h.2.1 (fun b hb => u1n (by omega)) (u1n (by omega)) (u1n (by omega)), fun q hq => by rw [u1n (by omega)]; exact h.2.2 q hq⟩
theorem SF_ext {w' : Nat → Int32} {b : Nat} (hw : ∀ q x, q < C → x < 6 → w' (375 + 6 * q + x) = w (375 + 6 * q + x)) (h3 : w' (375 + 6 * C + 3) = 0) : ∀ {l : List Nat} {last : Int32}, SF w b C last l → SF w' b (C + 1) last l
  | [], last, h => fun q hq z => by
    by_cases e : q = C
    · subst e
      have := z.1
      rw [h3] at this
      exact absurd this (by decide)
    · have z' : ms_wt w b last q := by
        unfold ms_wt at z ⊢
        rw [hw q 3 (by omega) (by omega), hw q 0 (by omega) (by omega), hw q 5 (by omega) (by omega)] at z
        exact z
      exact h q (by omega) z'
  | q0 :: r, last, h => by
    obtain ⟨⟨hq, hwt, hm⟩, hr⟩ := h
    have cv : ∀ q, q < C → ∀ last, ms_wt w' b last q ↔ ms_wt w b last q := fun q hq last => by
      unfold ms_wt
      rw [hw q 3 hq (by omega), hw q 0 hq (by omega), hw q 5 hq (by omega)]
    refine ⟨⟨by omega, (cv q0 hq last).mpr hwt, fun q hq' z hne => ?_⟩, ?_⟩
    · by_cases e : q = C
      · subst e
        have := z.1
        rw [h3] at this
        exact absurd this (by decide)
      · rw [hw q0 5 hq (by omega), hw q 5 (by omega) (by omega)]
        exact hm q (by omega) ((cv q (by omega) last).mp z) hne
    · rw [hw q0 5 hq (by omega)]
      exact SF_ext hw h3 hr
theorem add_come {C : Nat} {x y z : Int32} : ms_come (ms_add w C x y z) C = ms_come (ms_addq w C x y z) C := by
  funext k
  unfold ms_come ms_add ms_addq
  by_cases k10 : k = 10
  · subst k10
    simp (disch := omega) only [u1s, u1n]
  · rw [u1n k10, u1n k10]
    by_cases k5 : k = 375 + 6 * C + 5
    · subst k5
      simp (disch := omega) only [u1s, u1n]
    · rw [u1n k5, u1n k5]
      by_cases k3 : k = 375 + 6 * C + 3
      · subst k3
        rw [u1s, u1s]
      · rw [u1n k3, u1n k3]
        by_cases k9 : k = 9
        · subst k9
          simp (disch := omega) only [u1s, u1n]
        · rw [u1n k9]
          by_cases k4 : k = 375 + 6 * C + 4
          · subst k4
            rw [u1s, u1s]
          · rw [u1n k4, u1n k4, u1n k3]
            by_cases k2 : k = 375 + 6 * C + 2
            · subst k2
              rw [u1s, u1s]
            · rw [u1n k2, u1n k2]
              by_cases k1 : k = 375 + 6 * C + 1
              · subst k1
                rw [u1s, u1s]
              · rw [u1n k1, u1n k1]
                by_cases k0 : k = 375 + 6 * C + 0
                · subst k0
                  rw [u1s, u1s]
                · rw [u1n k0, u1n k0, u1n k9]
theorem LM_ask (hq : LQ q i) (h : LM e i t w B R C T τ) (hB4 : B ≤ 4) {b r : Nat} (hb : b < B) (hr : r < R) (hC39 : C < 39) :
    ∃ e1 e2, EV (262, 0, [ev_R 200 i, ev_I (Int32.ofNat b), ev_I (Int32.ofNat r), ev_I (w 8)], [], 0, 0) (n, lk, d, wn, tt, e, q) = some (.inl (some (ev_I (Int32.ofNat C))), (n, lk, d, wn, tt, e1, q)) ∧
      EV (263, 0, [ev_R 200 i, ev_I (Int32.ofNat C)], [], 0, 0) (n, lk, d, wn, tt, e1, q) = some (.inl none, (n, lk, d, wn, tt, e2, q)) ∧ LM e2 i t (ms_come (ms_addq w C (Int32.ofNat b) (Int32.ofNat r) (w 8)) C) B R (C + 1) T τ ∧ LF e e2 i := by
  obtain ⟨u, K, hV, hI, hC, hQ, hK, hBL, h4, hHE⟩ := h
  have hb4 : b < 4 := by omega
  obtain ⟨e1, x1, x2, x3⟩ := lm_add (n := n) (lk := lk) (d := d) (wn := wn) (tt := tt) hq hV hC (by omega) (Int32.ofNat b) (Int32.ofNat r) (w 8)
  have aq := ms_addq_q (w := w) (C := C) (b := Int32.ofNat b) (r := Int32.ofNat r) (tm := w 8)
  have an : ∀ p x, p < C → x < 6 → ms_addq w C (Int32.ofNat b) (Int32.ofNat r) (w 8) (375 + 6 * p + x) = w (375 + 6 * p + x) := fun p x hp hx => ms_addq_n (by omega) (.inl (by omega))
  have al : ∀ k, k < 375 → k ≠ 9 → ms_addq w C (Int32.ofNat b) (Int32.ofNat r) (w 8) k = w k := fun k hk h9 => ms_addq_n h9 (.inl (by omega))
  have hQ' : QR (ms_addq w C (Int32.ofNat b) (Int32.ofNat r) (w 8)) u (C + 1) := fun b' hb' => by
    obtain ⟨l, hs, hl⟩ := hQ b' hb'
    exact ⟨l, SF_ext an aq.2.2.2.1 hs, hl⟩
  have hK' : HO (ms_addq w C (Int32.ofNat b) (Int32.ofNat r) (w 8)) (C + 1) K := by
    obtain ⟨k1, k2, k3, k4⟩ := hK
    refine ⟨by rw [al 10 (by omega) (by omega)]; exact k1, ?_, by omega, fun p hp hs => ?_⟩
    · have e : ms_cm (ms_addq w C (Int32.ofNat b) (Int32.ofNat r) (w 8)) (C + 1) = if ms_addq w C (Int32.ofNat b) (Int32.ofNat r) (w 8) (375 + 6 * C + 3) = 0 then ms_cm (ms_addq w C (Int32.ofNat b) (Int32.ofNat r) (w 8)) C else ms_cm (ms_addq w C (Int32.ofNat b) (Int32.ofNat r) (w 8)) C + 1 := rfl
      rw [e, if_pos aq.2.2.2.1, k2]
      exact ms_cm_c fun p hp => by rw [an p 3 hp (by omega)]
    · have e : p ≠ C := fun z => by
        subst z
        exact hs aq.2.2.2.1
      rw [an p 3 (by omega) (by omega)] at hs
      obtain ⟨x, a1, a2⟩ := k4 p (by omega) hs
      exact ⟨x, a1, by rw [an p 5 (by omega) (by omega)]; exact a2⟩
  obtain ⟨l, hl, hl40, hcome⟩ := hQ'.come hK' (p := C) (by omega) aq.2.2.2.1 hb4 aq.1
  have hbk : ms_add w C (Int32.ofNat b) (Int32.ofNat r) (w 8) (375 + 6 * C + 0) = Int32.ofNat b := by
    unfold ms_add
    simp (disch := omega) only [u1n, u1s]
  obtain ⟨e2, u2, y1, y2, y3, y4, y5⟩ := lm_come (n := n) (lk := lk) (d := d) (wn := wn) (tt := tt) hq x2 (b := b) (p := C) hb4 (by omega) hbk hl hl40
  rw [add_come] at y2
  have cn : ∀ k, k < 375 → k ≠ 9 → k ≠ 10 → ms_come (ms_addq w C (Int32.ofNat b) (Int32.ofNat r) (w 8)) C k = w k := fun k hk h9 h10 => by
    rw [come_n (by omega) (by omega) h10, al k hk h9]
  refine ⟨e1, e2, x1, y1, ⟨u2, K + 1, y2, SI_ask hI (by omega) hb hr hB4, ?_, hcome u2 y4 y5, hK'.come (by omega) aq.2.2.2.1, fun c hc => ?_, ?_, fun x hx => ?_⟩, x3.tr y3⟩
  · rw [come_n (by omega) (by omega) (by omega)]
    exact ms_addq_9
  · rw [cn _ (by omega) (by omega) (by omega)]
    exact hBL c hc
  · rw [cn _ (by omega) (by omega) (by omega)]
    exact h4
  · rw [cn _ (by omega) (by omega) (by omega)]
    exact hHE x hx
theorem PW_ask (h : PW w B R C) (hB4 : B ≤ 4) {b r : Nat} : PW (ms_come (ms_addq w C (Int32.ofNat b) (Int32.ofNat r) (w 8)) C) B R (C + 1) := by
  have cn : ∀ k, k < 375 → k ≠ 9 → k ≠ 10 → ms_come (ms_addq w C (Int32.ofNat b) (Int32.ofNat r) (w 8)) C k = w k := fun k hk h9 h10 => by
    rw [come_n (by omega) (by omega) h10, ms_addq_n h9 (.inl (by omega))]
  refine ⟨fun x r hx hr hn => by rw [cn _ (by omega) (by omega) (by omega)]; exact h.1 x r hx hr hn, WH_c h.2.1 (fun b hb => cn _ (by omega) (by omega) (by omega)) (cn _ (by omega) (by omega) (by omega)) (cn _ (by omega) (by omega) (by omega)), fun p hp => ?_⟩
  by_cases e : p = C
  · subst e
    exact .inr (.inl (come_3 _ _))
  · rw [come_n (by omega) (by omega) (by omega), ms_addq_n (by omega) (.inl (by omega))]
    exact h.2.2 p (by omega)
end CH1
