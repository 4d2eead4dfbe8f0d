/-! THE LAW'S OWN MEMORY, 18: a bank of a step -/
theorem BL_cool {V : Nat → Int32} {b : Nat} {sv : Option Nat} (hb : b < 4) (h : BL V) : BL (ms_cool1 V b sv) := fun c hc => by
  rw [cool_n (b := b) (sv := sv) (fun z => by unfold AH at z; omega)]
  exact h c hc
theorem BL_ac {V : Nat → Int32} {b wi : Nat} {sv : Option Nat} {to : Int32} (h1 : to = -1 ∨ ∃ r, r < 16 ∧ to = Int32.ofNat r) (h2 : ∀ q, sv = some q → ∃ r, r < 16 ∧ to = Int32.ofNat r) (hb : b < 4) (h : BL V) : BL (ac_one V b wi sv to) := fun c hc => by
  rw [ac_n h1 h2 (fun z => ?_)]
  · exact h c hc
  · unfold AA at z
    rcases z with z | z | ⟨x, hx, z⟩ | ⟨x, hx, z⟩ <;> omega
theorem cool_law {V : Nat → Int32} {b : Nat} (hH : ms_rg (V (19 + 9 * b + 1)) 0 100000) : ev_u1 V (19 + 9 * b + 1) (if (0 : Int32) < V (19 + 9 * b + 1) - 1 then V (19 + 9 * b + 1) - 1 else 0) = ms_cool1 V b none := by
  have z0 : (0 : Int32).toInt = 0 := by decide
  have z1 : (-1 : Int32).toInt = -1 := by decide
  obtain ⟨a, c⟩ := hH
  have hs : (V (19 + 9 * b + 1) - 1).toInt = (V (19 + 9 * b + 1)).toInt - 1 := by
    rw [Int32.sub_eq_add_neg, i32_add, z1]
    · omega
    · rw [z1]; omega
    · rw [z1]; omega
  unfold ms_cool1
  by_cases k : 0 < V (19 + 9 * b + 1)
  · rw [if_pos (show none = none ∧ _ from ⟨rfl, k⟩), ← Int32.sub_eq_add_neg]
    congr 1
    by_cases m : (0 : Int32) < V (19 + 9 * b + 1) - 1
    · rw [if_pos m]
    · rw [if_neg m]
      rw [i32_lt, z0] at k m
      refine Int32.toInt_inj.mp ?_
      rw [hs, z0]
      omega
  · rw [if_neg (show ¬ ((none : Option Nat) = none ∧ 0 < V (19 + 9 * b + 1)) from fun z => k z.2)]
    refine u1_id ?_
    rw [i32_lt, z0] at k
    rw [if_neg (by rw [i32_lt, z0, hs]; omega)]
    exact Int32.toInt_inj.mp (by rw [z0]; omega)
section LM18
variable {n : Nat} {lk : Nat → Nat → Nat → Bool} {d : Nat → Nat → Nat → Int32} {wn : Nat} {tt : Nat → Nat} {e : Nat → Nat → Nat → Int32} {q : Nat → Nat → Nat → Nat} {i : Nat} {t u : Nat → Int32} {P : ev_O × ev_M → Prop}
theorem LV.r14 {V : Nat → Int32} {c0 : Int32} {r j p K : Nat} (h : LV e i t (ev_u1 V 14 c0) u) (ha : LA i r j p 0 K) (hK : K ≠ 14) : e r j p = V K := (h _ _ _ _ _ ha).trans (u1n hK)
theorem wat_keep {V V' : Nat → Int32} {C b' : Nat} (hr : QR V u C) (hb' : b' < 4) (h1 : ∀ q, q < C → (ms_wt V b' (-1) q ↔ ms_wt V' b' (-1) q)) (h2 : ∀ q, q < C → ms_wt V b' (-1) q → V' (375 + 6 * q + 5) = V (375 + 6 * q + 5)) : ms_wat V' b' C 0 (-1) = ms_wat V b' C 0 (-1) := by
  obtain ⟨l, hs, -⟩ := hr b' hb'
  exact wat_AG hs (SF.same hs h1 h2)
theorem lm_bank (hq : LQ q i) {B R C K : Nat} (hT : TC t B R) {V V' : Nat → Int32} {b wi : Nat} {sv : Option Nat} {to c0 y hv : Int32} (hb : b < B) (hBL : BL V) (hH : ms_rg (V (19 + 9 * b + 1)) 0 100000) (h40 : C ≤ 40)
    (h1 : to = -1 ∨ ∃ r, r < 16 ∧ to = Int32.ofNat r) (h2 : ∀ p, sv = some p → ms_wat V b C 0 (-1) = some p ∧ ∃ r, r < 16 ∧ to = Int32.ofNat r) (hw : wi < 7) (hw6 : V (19 + 9 * b + 6) = Int32.ofNat wi)
    (hhv : hv = if ms_hot V b then 1 else 0) (hV : V' = lb_one t V R b wi sv to hv) (hu2 : u (5 * b + 2) = to) (hu3 : u (5 * b + 3) = ms_en sv) (hr : QR V u C) (hk : HO V C K) (h : LV e i t (ev_u1 V 14 c0) u) (hy : y = V 14 - c0)
    (kk : ∀ e' u' y', LV e' i t (ev_u1 V' 14 c0) u' → LF e e' i → y' = V' 14 - c0 → QR V' u' C → HO V' C K → (∀ b', b' < 4 → b' ≠ b → ms_wat V' b' C 0 (-1) = ms_wat V b' C 0 (-1)) → (∀ b' k, b' < 4 → b' ≠ b → 1 ≤ k → k < 4 → u' (5 * b' + k) = u (5 * b' + k)) → ER (273, 8, [ev_R 200 i, ev_I y', ev_I (Int32.ofNat (b + 1))], [], 0, 0) (n, lk, d, wn, tt, e', q) P) :
    ER (273, 8, [ev_R 200 i, ev_I y, ev_I (Int32.ofNat b)], [], 0, 0) (n, lk, d, wn, tt, e, q) P := by
  obtain ⟨⟨t0, t1, -, b4, -, h16⟩, -⟩ := id hT
  have hb4 : b < 4 := by omega
  obtain ⟨k9, k10, k11, k12, k13, k14, k15, k16⟩ := hq.1
  obtain ⟨k7, m13, m14, m15, m16, m17, m18, m19, m20⟩ := hq.2 b hb4
  have cB : e 200 i 0 = Int32.ofNat B := (h _ _ _ _ _ (la_f (k := 0) (by omega))).trans t0
  have eh := lm_hot (n := n) (lk := lk) (d := d) (wn := wn) (tt := tt) hq h hb4
  have hot : (if ms_hot (ev_u1 V 14 c0) b then (1 : Int32) else 0) = hv := by
    have e := hot_AG (V := ev_u1 V 14 c0) (V' := V) (b := b) (u1n (by omega)) (u1n (by omega))
    rw [hhv]
    by_cases c : ms_hot V b
    · rw [if_pos c, if_pos (e.mpr c)]
    · rw [if_neg c, if_neg (fun z => c (e.mp z))]
  rw [hot] at eh
  have hv2 : ev_ok 2 hv = true := by
    rw [hhv]
    split <;> rfl
  have p1 : LV (ev_u3 e 201 (i + 9 + 9 * b) 12 hv) i t (ev_u1 V 14 c0) (ev_u1 u (5 * b + 4) hv) := h.put2 (la_bx hb4 (k := 4) (by omega))
  have q1 : LF e (ev_u3 e 201 (i + 9 + 9 * b) 12 hv) i := (LF.rf e i).put (la_bx (i := i) hb4 (k := 4) (by omega))
  have r1 : QR V (ev_u1 u (5 * b + 4) hv) C := hr.hi (fun _ _ => rfl) (fun b' hb' => ⟨u1n (by omega), fun j hj => u1n (by omega)⟩)
  have g11 : e 201 (i + 9 + 9 * b) 11 = ms_en sv := (h _ _ _ _ _ (la_bx hb4 (k := 3) (by omega))).trans hu3
  have g10 : e 201 (i + 9 + 9 * b) 10 = to := (h _ _ _ _ _ (la_bx hb4 (k := 2) (by omega))).trans hu2
  have g1 : e 201 (i + 9 + 9 * b) 1 = V (19 + 9 * b + 1) := h.r14 (la_bk hb4 (k := 1) (by omega)) (by omega)
  refine ER_bk ?_
  rw [bk_273_8, cB, if_pos ((ni_lt (by omega) (by omega)).mpr hb), k16, ev_lq_s, ni_in (n := b) (N := 4) hb4 (by omega), cond_true, ni_c (n := b) (by omega), k7, ev_lq_s, eh]
  simp only [ev_bi, hv2, cond_true]
  have n11 : ev_u3 e 201 (i + 9 + 9 * b) 12 hv 201 (i + 9 + 9 * b) 11 = ms_en sv := (u3_ne (by omega)).trans g11
  rw [n11]
  cases sv with
  | none =>
    rw [if_pos (show ms_en none < 0 by decide)]
    have g0 : e 201 (i + 9 + 9 * b) 0 = V (19 + 9 * b + 0) := h.r14 (la_bk hb4 (k := 0) (by omega)) (by omega)
    have g3 : e 201 (i + 9 + 9 * b) 3 = V (19 + 9 * b + 3) := h.r14 (la_bk hb4 (k := 3) (by omega)) (by omega)
    have g6 : e 201 (i + 9 + 9 * b) 6 = Int32.ofNat wi := (h.r14 (la_bk hb4 (k := 6) (by omega)) (by omega)).trans hw6
    have a1 : e 203 (i + 2) 1 = V (11 + 1) := h.r14 (la_acc (k := 1) (by omega)) (by omega)
    have a2 : e 203 (i + 2) 2 = V (11 + 2) := h.r14 (la_acc (k := 2) (by omega)) (by omega)
    simp (disch := omega) only [u3_ne, u3_eq, g10, g1, g0, g3, g6]
    have p2 := p1.put14 (la_bk hb4 (k := 1) (by omega)) (v := if (0 : Int32) < V (19 + 9 * b + 1) - 1 then V (19 + 9 * b + 1) - 1 else 0) (by omega)
    have q2 := q1.put (la_bk (i := i) hb4 (k := 1) (by omega)) (v := if (0 : Int32) < V (19 + 9 * b + 1) - 1 then V (19 + 9 * b + 1) - 1 else 0)
    rw [cool_law hH] at p2
    generalize (if (0 : Int32) < V (19 + 9 * b + 1) - 1 then V (19 + 9 * b + 1) - 1 else 0) = vh at p2 q2 ⊢
    have hu2' : ev_u1 u (5 * b + 4) hv (5 * b + 2) = to := (u1n (by omega)).trans hu2
    have hu4' : ev_u1 u (5 * b + 4) hv (5 * b + 4) = hv := u1s _ _ _
    have hhi : ∀ k, (375 ≤ k ∨ k = 10) → V' k = V k := fun k hk => by rw [hV]; exact lb_hi hb4 h16 h1 hk
    have fin : ∀ e' y', LV e' i t (ev_u1 V' 14 c0) (ev_u1 u (5 * b + 4) hv) → LF e e' i → y' = V' 14 - c0 → ER (273, 8, [ev_R 200 i, ev_I y', ev_I (Int32.ofNat (b + 1))], [], 0, 0) (n, lk, d, wn, tt, e', q) P := fun e' y' x1 x2 x3 =>
      kk e' _ y' x1 x2 x3 (r1.hi (fun k hk => hhi k (.inl hk)) (fun b' hb' => ⟨rfl, fun j hj => rfl⟩)) (hk.hi (fun k hk => hhi k (.inl hk)) (hhi 10 (.inr rfl)))
        (fun b' hb' hne => wat_keep hr hb' (fun q hq => by unfold ms_wt; rw [hhi _ (.inl (by omega)), hhi _ (.inl (by omega)), hhi _ (.inl (by omega))]) (fun q hq _ => hhi _ (.inl (by omega))))
        (fun b' k hb' hne k1 k4 => u1n (by omega))
    rcases h1 with rfl | ⟨r, hr16, rfl⟩
    · rw [if_pos (by decide)]
      refine lm_rows hq hT hb4 (BL_cool hb4 hBL) hu2' hu4' p2 ?_ fun e' y' x1 x2 x3 => ?_
      · rw [hy, cool_n (b := b) (sv := none) (fun z => by unfold AH at z; omega)]
      · rw [hV] at fin
        exact fin e' y' x1 (q2.tr x2) x3
    · have hn : ¬ (Int32.ofNat r < 0) := fun z => absurd ((ni_lt (a := r) (b := 0) (by omega) (by omega)).mp z) (by omega)
      rw [if_neg hn, m16, ev_lq_s, ni_in (n := r) (N := 16) hr16 (by omega), cond_true, cond_true, k10, ev_lq_s, ev_lq_s, ni_c (n := r) (by omega)]
      have g2 : e 205 (i + 9 + 9 * b + 4) r = V (55 + 5 * (16 * b + r) + 2) := h.r14 (la_rfr hb4 hr16) (by omega)
      simp (disch := omega) only [u3_ne, u3_eq, g2, a1, a2]
      have hc : ∀ k, k ≠ 19 + 9 * b + 1 → ms_cool1 V b none k = V k := fun k hk => cool_n (b := b) (sv := none) hk
      have p3 := p2.put14 (la_bk hb4 (k := 0) (by omega)) (v := V (19 + 9 * b + 0) - 1) (by omega)
      have p4 := p3.put14 (la_bk hb4 (k := 3) (by omega)) (v := V (19 + 9 * b + 3) + 1) (by omega)
      have p5 := p4.put14 (la_rfr hb4 hr16) (v := V (55 + 5 * (16 * b + r) + 2) + 1) (by omega)
      have p6 := p5.put14 (la_acc (k := 1) (by omega)) (v := V (11 + 1) + 1) (by omega)
      have p7 := p6.put14 (la_acc (k := 2) (by omega)) (v := V (11 + 2) + (if wi = 1 then 1 else 0)) (by omega)
      have q7 := ((((q2.put (la_bk (i := i) hb4 (k := 0) (by omega)) (v := V (19 + 9 * b + 0) - 1)).put (la_bk (i := i) hb4 (k := 3) (by omega)) (v := V (19 + 9 * b + 3) + 1)).put (la_rfr (i := i) hb4 hr16) (v := V (55 + 5 * (16 * b + r) + 2) + 1)).put (la_acc (i := i) (k := 1) (by omega)) (v := V (11 + 1) + 1)).put (la_acc (i := i) (k := 2) (by omega)) (v := V (11 + 2) + (if wi = 1 then 1 else 0))
      have er := refresh_eq (w := ms_cool1 V b none) (r := r) (u := wi = 1) hb4
      rw [hc _ (by omega), hc _ (by omega), hc _ (by omega), hc _ (by omega), hc _ (by omega)] at er
      rw [← er] at p7
      have ea : ac_one (ms_cool1 V b none) b wi none (Int32.ofNat r) = ms_refresh (ms_cool1 V b none) b r (wi = 1) := by
        show (if _ then _ else _) = _
        rw [if_neg (fun z => hn (by rw [z]; decide)), ni_c (by omega)]
      rw [← ea] at p7
      have y14 : y = ac_one (ms_cool1 V b none) b wi none (Int32.ofNat r) 14 - c0 := by
        rw [hy, ea, er, u1n (by omega), u1n (by omega), u1n (by omega), u1n (by omega), u1n (by omega), hc 14 (by omega)]
      have go : ∀ E7, LV E7 i t (ev_u1 (ac_one (ms_cool1 V b none) b wi none (Int32.ofNat r)) 14 c0) (ev_u1 u (5 * b + 4) hv) → LF e E7 i → ER (273, 245, [ev_R 200 i, ev_I y, ev_I (Int32.ofNat b), ev_R 201 (i + 9 + 9 * b)], [], 0, 0) (n, lk, d, wn, tt, E7, q) P := by
        intro E7 g1 g2
        refine lm_rows hq hT hb4 (BL_ac (sv := none) (.inr ⟨r, hr16, rfl⟩) (fun _ z => nomatch z) hb4 (BL_cool hb4 hBL)) hu2' hu4' g1 y14 fun e' y' x1 x2 x3 => ?_
        rw [hV] at fin
        exact fin e' y' x1 (g2.tr x2) x3
      by_cases c : wi = 1
      · rw [if_pos (by rw [c]; rfl)]
        rw [if_pos c] at p7 q7
        exact go _ p7 q7
      · rw [if_neg (fun z => c ((ni_e1 (by omega)).mp z))]
        rw [if_neg c] at p7 q7
        exact go _ p7 q7
  | some p =>
    obtain ⟨hwat, r, hr16, rfl⟩ := h2 p rfl
    obtain ⟨l0, hs0, hl0⟩ := r1 b hb4
    obtain ⟨l, rfl⟩ : ∃ l, l0 = p :: l := by
      have z := (SF.wat 0 hs0).symm.trans hwat
      match l0, z with
      | x :: l, z => exact ⟨l, by cases z; rfl⟩
    have hp : p < C := hs0.1.1
    have hwt : ms_wt V b (-1) p := hs0.1.2.1
    have hneg : ¬ (ms_en (some p) < 0) := fun z => absurd ((ni_lt (a := p) (b := 0) (by omega) (by omega)).mp z) (by omega)
    obtain ⟨e8, u8, x1, x2, x3, x4, x5⟩ := lm_pull (n := n) (lk := lk) (d := d) (wn := wn) (tt := tt) hq p1 hb4 hl0
    have hu2' : u8 (5 * b + 2) = Int32.ofNat r := (x5 _ (by omega) (by omega)).trans ((u1n (by omega)).trans hu2)
    have hu4' : u8 (5 * b + 4) = hv := (x5 _ (by omega) (by omega)).trans (u1s _ _ _)
    have g10 : e8 201 (i + 9 + 9 * b) 10 = Int32.ofNat r := (x2 _ _ _ _ _ (la_bx hb4 (k := 2) (by omega))).trans hu2'
    have f4 : e8 200 i 4 = V 8 := x2.r14 la_time (by omega)
    have f6 : e8 200 i 6 = V 17 := x2.r14 la_waits (by omega)
    have f7 : e8 200 i 7 = V 18 := x2.r14 la_long (by omega)
    have g2 : e8 201 (i + 9 + 9 * b) 2 = V (19 + 9 * b + 2) := x2.r14 (la_bk hb4 (k := 2) (by omega)) (by omega)
    have g1 : e8 201 (i + 9 + 9 * b) 1 = V (19 + 9 * b + 1) := x2.r14 (la_bk hb4 (k := 1) (by omega)) (by omega)
    have s4 : e8 202 (i + 1) 4 = V 4 := x2.r14 (la_set (k := 4) (by omega)) (by omega)
    have a5 : e8 203 (i + 2) 5 = V 16 := x2.r14 (la_acc (k := 5) (by omega)) (by omega)
    have ac : e8 205 (i + 9 + 9 * b + 5) r = V (55 + 5 * (16 * b + r) + 3) := x2.r14 (la_acs hb4 hr16) (by omega)
    have tk : e8 204 (i + 5) p = V (375 + 6 * p + 2) := x2.r14 (la_rq (x := 2) (q := p) (by omega) (by omega)) (by omega)
    rw [if_neg hneg, x1]
    simp only [ev_bi, k14, k15, k9, m17, k10, k13, ev_lq_s, ni_in (n := p) (N := 40) (by omega) (by omega), ni_c (n := p) (by omega), cond_true]
    simp (disch := omega) only [u3_ne, u3_eq, g10, f4, f6, f7, g2, g1, s4, a5, tk, ni_in (n := r) (N := 16) hr16, ni_c, cond_true, ac]
    have p2 := x2.put14 (la_rq (x := 3) (q := p) (by omega) (by omega)) (v := 2) (by omega)
    have p3 := p2.put14 (la_rq (x := 4) (q := p) (by omega) (by omega)) (v := V 8) (by omega)
    have p4 := p3.put14 (la_bk hb4 (k := 2) (by omega)) (v := V (19 + 9 * b + 2) + 1) (by omega)
    have p5 := p4.put14 (la_bk hb4 (k := 1) (by omega)) (v := V (19 + 9 * b + 1) + V 4) (by omega)
    have p6 := p5.put14 (la_acs hb4 hr16) (v := V (55 + 5 * (16 * b + r) + 3) + 1) (by omega)
    have p7 := p6.put14 (la_acc (k := 5) (by omega)) (v := V 16 + 1) (by omega)
    have p8 := p7.put14 la_waits (v := V 17 + (V 8 - V (375 + 6 * p + 2))) (by omega)
    have p9 := p8.put14 la_long (v := if V 18 < V 8 - V (375 + 6 * p + 2) then V 8 - V (375 + 6 * p + 2) else V 18) (by omega)
    have q9 := (((((((x3.put (la_rq (i := i) (x := 3) (q := p) (by omega) (by omega)) (v := 2)).put (la_rq (i := i) (x := 4) (q := p) (by omega) (by omega)) (v := V 8)).put (la_bk (i := i) hb4 (k := 2) (by omega)) (v := V (19 + 9 * b + 2) + 1)).put (la_bk (i := i) hb4 (k := 1) (by omega)) (v := V (19 + 9 * b + 1) + V 4)).put (la_acs (i := i) hb4 hr16) (v := V (55 + 5 * (16 * b + r) + 3) + 1)).put (la_acc (i := i) (k := 5) (by omega)) (v := V 16 + 1)).put (la_waits (i := i)) (v := V 17 + (V 8 - V (375 + 6 * p + 2)))).put (la_long (i := i)) (v := if V 18 < V 8 - V (375 + 6 * p + 2) then V 8 - V (375 + 6 * p + 2) else V 18)
    rw [← serve_eq hb4 hr16] at p9
    have ea : ac_one (ms_cool1 V b (some p)) b wi (some p) (Int32.ofNat r) = ms_serve V b p r := by
      have e : ms_cool1 V b (some p) = V := if_neg (fun z => absurd z.1 (by simp))
      rw [e]
      show ms_serve V b p (Int32.ofNat r).toNatClampNeg = _
      rw [ni_c (by omega)]
    rw [← ea] at p9
    have hto : ∃ x, x < 16 ∧ Int32.ofNat r = Int32.ofNat x := ⟨r, hr16, rfl⟩
    have hV2 : V' = ms_rows t (ms_serve V b p r) b (Int32.ofNat r) hv R := by
      rw [hV, ← ea]
      rfl
    have hhi : ∀ k, (375 ≤ k ∧ k ≠ 375 + 6 * p + 3 ∧ k ≠ 375 + 6 * p + 4) ∨ k = 10 → V' k = V k := fun k hk => by rw [hV]; exact lb_hi2 hb4 h16 hto hk
    have h3 : V' (375 + 6 * p + 3) = 2 := by
      rw [hV2, rows_n h16 (fun z => by unfold AR at z; rcases z with z | ⟨x, hx, z⟩ <;> omega), serve_eq hb4 hr16, u1n (by omega), u1n (by omega), u1n (by omega), u1n (by omega), u1n (by omega), u1n (by omega), u1n (by omega), u1s]
    have hr' : QR V' u8 C := QR.serve r1 hs0 hb4 h3 (fun x hx hne => hhi _ (.inl ⟨by omega, by omega, by omega⟩)) (fun x hx => ⟨hhi _ (.inl ⟨by omega, by omega, by omega⟩), hhi _ (.inl ⟨by omega, by omega, by omega⟩)⟩) x4 x5
    have hk' : HO V' C K := hk.serve (p := p) (by rw [hwt.1]; decide) (by rw [h3]; decide) (fun x hx hne => hhi _ (.inl ⟨by omega, by omega, by omega⟩)) (fun x hx => hhi _ (.inl ⟨by omega, by omega, by omega⟩)) (hhi 10 (.inr rfl))
    refine lm_rows hq hT hb4 (V := ac_one (ms_cool1 V b (some p)) b wi (some p) (Int32.ofNat r)) (BL_ac (.inr hto) (fun _ _ => hto) hb4 (BL_cool hb4 hBL)) hu2' hu4' p9 ?_ fun e' y' z1 z2 z3 => ?_
    · rw [hy, ea, serve_eq hb4 hr16, u1n (by omega), u1n (by omega), u1n (by omega), u1n (by omega), u1n (by omega), u1n (by omega), u1n (by omega), u1n (by omega)]
    · rw [ea, ← hV2] at z1 z3
      refine kk e' u8 y' z1 ((q1.tr q9).tr z2) z3 hr' hk' (fun b' hb' hne => wat_keep hr hb' (fun x hx => ?_) (fun x hx _ => hhi _ (.inl ⟨by omega, by omega, by omega⟩))) (fun b' k hb' hne k1 k4 => (x5 _ (by omega) (by omega)).trans (u1n (by omega)))
      by_cases c : x = p
      · subst c
        refine ⟨fun z => absurd ((ni_eq (by omega) (by omega)).mp (hwt.2.1.symm.trans z.2.1)).symm hne, fun z => ?_⟩
        have := z.1
        rw [h3] at this
        exact absurd this (by decide)
      · unfold ms_wt
        rw [hhi _ (.inl ⟨by omega, by omega, by omega⟩), hhi _ (.inl ⟨by omega, by omega, by omega⟩), hhi _ (.inl ⟨by omega, by omega, by omega⟩)]
end LM18
