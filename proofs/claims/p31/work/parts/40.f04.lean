/-! THE LAW'S OWN MEMORY, 4: wishes; what is written -/
section LM4
variable {n : Nat} {lk : Nat → Nat → Nat → Bool} {d : Nat → Nat → Nat → Int32} {wn : Nat} {tt : Nat → Nat} {e : Nat → Nat → Nat → Int32} {q : Nat → Nat → Nat → Nat} {i : Nat} {t w u : Nat → Int32}
theorem QL.head {b q0 : Nat} {r : List Nat} (h : QL u b (q0 :: r)) : u (100 + 40 * b + 0) = Int32.ofNat q0 := h.2.2 0 q0 rfl
theorem lm_wish (hq : LQ q i) (h : LV e i t w u) {b k C : Nat} {l : List Nat} (hb : b < 4) (hC : C ≤ 40) (hk : k < 16) (hu : u (5 * b + 1) = Int32.ofNat k) (hl : QL u b l) (hs : SF w b C (-1) l) (h2 : ms_rg (w 2) 0 8) (hd : ms_small (w (19 + 9 * b + 0))) :
    EV (268, 0, [ev_R 200 i, ev_R 201 (i + 9 + 9 * b)], [], 0, 0) (n, lk, d, wn, tt, e, q) = some (.inl (some (ev_I (Int32.ofNat (ms_wish t w C b k)))), (n, lk, d, wn, tt, e, q)) := by
  have hwat : ms_wat w b C 0 (-1) = l[0]? := SF.wat 0 hs
  have e9 : e 201 (i + 9 + 9 * b) 9 = Int32.ofNat k := (h _ _ _ _ _ (la_bx hb (k := 1) (by omega))).trans hu
  have e8 : e 201 (i + 9 + 9 * b) 8 = Int32.ofNat l.length := (h _ _ _ _ _ (la_bx hb (k := 0) (by omega))).trans hl.1
  have e0 : e 201 (i + 9 + 9 * b) 0 = w (19 + 9 * b + 0) := h _ _ _ _ _ (la_bk hb (k := 0) (by omega))
  have s6 : e 202 (i + 1) 6 = w 6 := h _ _ _ _ _ (la_set (k := 6) (by omega))
  have s1 : e 202 (i + 1) 1 = w 1 := h _ _ _ _ _ (la_set (k := 1) (by omega))
  have s2 : e 202 (i + 1) 2 = w 2 := h _ _ _ _ _ (la_set (k := 2) (by omega))
  have s5 : e 202 (i + 1) 5 = w 5 := h _ _ _ _ _ (la_set (k := 5) (by omega))
  have s4 : e 200 i 4 = w 8 := h _ _ _ _ _ la_time
  have k19 := (hq.2 b hb).2.2.2.2.2.2.2.1
  obtain ⟨k9, -, -, -, k13, -⟩ := hq.1
  have six : (w (19 + 9 * b + 0) + w 2 ≤ 0) ↔ ¬ (-(w 2) < w (19 + 9 * b + 0)) := by
    obtain ⟨a1, a2⟩ := h2
    obtain ⟨a3, a4⟩ := hd
    have z0 : (0 : Int32).toInt = 0 := by decide
    rw [i32_le, i32_lt, i32_add (by omega) (by omega), i32_neg (by omega), z0]
    omega
  refine EV_bk (k := 400) ?_
  rw [bk_268_0, e9, lm_remains hq h hb hk]
  simp only [ev_bi, k9, ev_lq_s, s6]
  unfold ms_wish
  rw [hwat]
  by_cases z1 : ms_rem t w b k ≤ w 6
  · rw [if_pos z1, if_pos z1]
    rfl
  · rw [if_neg z1, if_neg z1]
    simp only [e8, e0, s1]
    match l, hl, hs with
    | [], hl, hs =>
      have n1 : ¬ ms_late w (([] : List Nat)[0]?) := by show ¬ (false = true); decide
      have n2 : ¬ ((([] : List Nat)[0]?).isSome = true) := by decide
      have z0 : Int32.ofNat ([] : List Nat).length ≤ 0 := by decide
      rw [if_pos z0, if_neg n1, if_neg n2]
      by_cases z2 : w (19 + 9 * b + 0) < w 1
      · rw [if_pos z2, if_neg (Int32.not_le.mpr z2)]
        by_cases z3 : w (19 + 9 * b + 0) ≤ 0
        · rw [if_pos z3, if_neg (Int32.not_lt.mpr z3), s2]
          by_cases z4 : w (19 + 9 * b + 0) + w 2 ≤ 0
          · rw [if_pos z4, if_neg (six.mp z4)]
            rfl
          · rw [if_neg z4, if_pos (Decidable.not_not.mp (fun z => z4 (six.mpr z)))]
            rfl
        · rw [if_neg z3, if_pos (Int32.not_le.mp z3)]
          rfl
      · rw [if_neg z2, if_pos (Int32.not_lt.mp z2)]
        rfl
    | q0 :: r, hl, hs =>
      obtain ⟨hq0, hw0, -⟩ := hs.1
      have e40 : e 204 (i + 9 + 9 * b + 7) 0 = Int32.ofNat q0 := (h _ _ _ _ _ (la_qu hb (p := 0) (by omega))).trans hl.head
      have e5 : e 204 (i + 5) q0 = w (375 + 6 * q0 + 2) := h _ _ _ _ _ (la_rq (x := 2) (by omega) (by omega))
      have n2 : (((q0 :: r)[0]?).isSome = true) := rfl
      have z0 : ¬ (Int32.ofNat (q0 :: r).length ≤ 0) := fun z => by
        have h40 := hl.2.1
        have := (ni_le (a := (q0 :: r).length) (b := 0) (by omega) (by omega)).mp z
        simp at this
      have late : ms_late w ((q0 :: r)[0]?) ↔ w 5 ≤ w 8 - w (375 + 6 * q0 + 2) := by
        show (decide (w 5 ≤ w 8 - w (375 + 6 * q0 + 2)) = true) ↔ _
        exact decide_eq_true_iff
      rw [if_neg z0, if_pos n2]
      simp only [k13, k19, ev_lq_s, e40, ni_in (n := q0) (N := 40) (by omega) (by omega), ni_c (n := q0) (by omega), cond_true, e5, s5, s4]
      by_cases z2 : w 8 - w (375 + 6 * q0 + 2) < w 5
      · rw [if_pos z2, if_neg (fun z => Int32.not_lt.mpr (late.mp z) z2)]
        by_cases z3 : w (19 + 9 * b + 0) < w 1
        · rw [if_pos z3, if_neg (Int32.not_le.mpr z3), if_neg z0]
          rfl
        · rw [if_neg z3, if_pos (Int32.not_lt.mp z3)]
          rfl
      · rw [if_neg z2, if_pos (late.mpr (Int32.not_lt.mp z2))]
        rfl
theorem lm_ahead (hq : LQ q i) (h : LV e i t w u) {b f : Nat} {wk wi : Nat → Nat} (hb : b < 4) (hf : f < 4) (hkb : wk b < 16) (hkf : wk f < 16) (h7 : wi b < 7) (h7' : wi f < 7) (ub : u (5 * b + 1) = Int32.ofNat (wk b)) (uf : u (5 * f + 1) = Int32.ofNat (wk f)) (wb : w (19 + 9 * b + 6) = Int32.ofNat (wi b)) (wf : w (19 + 9 * f + 6) = Int32.ofNat (wi f))
    (h1 : ms_small (ms_rem t w b (wk b))) (h2 : ms_small (w (19 + 9 * b + 0))) (h1' : ms_small (ms_rem t w f (wk f))) (h2' : ms_small (w (19 + 9 * f + 0))) :
    EV (270, 0, [ev_R 200 i, ev_R 201 (i + 9 + 9 * b), ev_R 201 (i + 9 + 9 * f)], [], 0, 0) (n, lk, d, wn, tt, e, q) = some (.inl (some (ev_I (if ms_rank t w wk wi b < ms_rank t w wk wi f then 1 else 0))), (n, lk, d, wn, tt, e, q)) := by
  have hr := ms_rank_lt h7 h7' h1 h2 h1' h2'
  have b6 : e 201 (i + 9 + 9 * b) 6 = Int32.ofNat (wi b) := (h _ _ _ _ _ (la_bk hb (k := 6) (by omega))).trans wb
  have f6 : e 201 (i + 9 + 9 * f) 6 = Int32.ofNat (wi f) := (h _ _ _ _ _ (la_bk hf (k := 6) (by omega))).trans wf
  have b9 : e 201 (i + 9 + 9 * b) 9 = Int32.ofNat (wk b) := (h _ _ _ _ _ (la_bx hb (k := 1) (by omega))).trans ub
  have f9 : e 201 (i + 9 + 9 * f) 9 = Int32.ofNat (wk f) := (h _ _ _ _ _ (la_bx hf (k := 1) (by omega))).trans uf
  have b0 : e 201 (i + 9 + 9 * b) 0 = w (19 + 9 * b + 0) := h _ _ _ _ _ (la_bk hb (k := 0) (by omega))
  have f0 : e 201 (i + 9 + 9 * f) 0 = w (19 + 9 * f + 0) := h _ _ _ _ _ (la_bk hf (k := 0) (by omega))
  refine EV_bk (k := 400) ?_
  rw [bk_270_0, b6, f6, b9, b0, f0, lm_remains hq h hb hkb]
  by_cases e1 : wi b = wi f
  · rw [if_pos e1] at hr
    rw [if_pos (by rw [e1])]
    by_cases z : wi b = 1
    · rw [if_pos z] at hr
      rw [if_pos (by rw [z]; rfl)]
      simp only [ev_bi, f9, lm_remains hq h hf hkf]
      by_cases c : ms_rem t w b (wk b) < ms_rem t w f (wk f)
      · rw [if_pos c, if_pos (hr.mpr c)]
      · rw [if_neg c, if_neg (fun z => c (hr.mp z))]
    · rw [if_neg z] at hr
      rw [if_neg (fun c => z ((ni_e1 (by omega)).mp c))]
      by_cases c : w (19 + 9 * b + 0) ≤ w (19 + 9 * f + 0)
      · rw [if_pos c, if_neg (fun z => Int32.not_lt.mpr c (hr.mp z))]
      · rw [if_neg c, if_pos (hr.mpr (Int32.not_le.mp c))]
  · rw [if_neg e1] at hr
    rw [if_neg (fun c => e1 ((ni_eq (by omega) (by omega)).mp c))]
    by_cases c : Int32.ofNat (wi b) < Int32.ofNat (wi f)
    · rw [if_pos c, if_pos (hr.mpr ((ni_lt (by omega) (by omega)).mp c))]
    · rw [if_neg c, if_neg (fun z => c ((ni_lt (by omega) (by omega)).mpr (hr.mp z)))]
theorem lm_move (hq : LQ q i) (h : LV e i t w u) {b k : Nat} (hb : b < 4) (hk : k < 4) : ∃ e', EV (272, 0, [ev_R 200 i, ev_R 201 (i + 9 + 9 * b), ev_R 201 (i + 9 + 9 * k)], [], 0, 0) (n, lk, d, wn, tt, e, q) = some (.inl none, (n, lk, d, wn, tt, e', q)) ∧ LV e' i t (ms_moves w b k) u ∧ LF e e' i := by
  have key := bk_272_0 EV i (i + 9 + 9 * b) (i + 9 + 9 * k) n lk d wn tt e q
  rw [hq.1.2.1, ev_lq_s] at key
  generalize hv1 : e 201 (i + 9 + 9 * b) 0 - 1 = v1 at key
  generalize hv2 : ev_u3 e 201 (i + 9 + 9 * b) 0 v1 201 (i + 9 + 9 * b) 4 + 1 = v2 at key
  generalize hv3 : ev_u3 (ev_u3 e 201 (i + 9 + 9 * b) 0 v1) 201 (i + 9 + 9 * b) 4 v2 201 (i + 9 + 9 * k) 0 + 1 = v3 at key
  generalize hv4 : ev_u3 (ev_u3 (ev_u3 e 201 (i + 9 + 9 * b) 0 v1) 201 (i + 9 + 9 * b) 4 v2) 201 (i + 9 + 9 * k) 0 v3 201 (i + 9 + 9 * k) 5 + 1 = v4 at key
  generalize hv5 : e 203 (i + 2) 4 + 1 = v5 at key
  have p1 := h.put0 (la_bk hb (k := 0) (by omega)) (v := v1)
  have p2 := p1.put0 (la_bk hb (k := 4) (by omega)) (v := v2)
  have p3 := p2.put0 (la_bk hk (k := 0) (by omega)) (v := v3)
  have p4 := p3.put0 (la_bk hk (k := 5) (by omega)) (v := v4)
  have p5 := p4.put0 (la_acc (k := 4) (by omega)) (v := v5)
  refine ⟨_, EV_bk (k := 400) key, ?_, (((((LF.rf e i).put (la_bk hb (k := 0) (by omega))).put (la_bk hb (k := 4) (by omega))).put (la_bk hk (k := 0) (by omega))).put (la_bk hk (k := 5) (by omega))).put (la_acc (k := 4) (by omega))⟩
  rw [h _ _ _ _ _ (la_bk hb (k := 0) (by omega))] at hv1
  rw [p1 _ _ _ _ _ (la_bk hb (k := 4) (by omega))] at hv2
  rw [p2 _ _ _ _ _ (la_bk hk (k := 0) (by omega))] at hv3
  rw [p3 _ _ _ _ _ (la_bk hk (k := 5) (by omega))] at hv4
  rw [h _ _ _ _ _ (la_acc (k := 4) (by omega))] at hv5
  have c5 : ms_moves w b k = ev_u1 (ev_u1 (ev_u1 (ev_u1 (ev_u1 w (19 + 9 * b + 0) v1) (19 + 9 * b + 4) v2) (19 + 9 * k + 0) v3) (19 + 9 * k + 5) v4) (11 + 4) v5 := by
    have e1 : v1 = w (19 + 9 * b + 0) + -1 := by
      rw [← Int32.sub_eq_add_neg]
      exact hv1.symm
    have e2 : v2 = ev_u1 w (19 + 9 * b + 0) v1 (19 + 9 * b + 4) + 1 := hv2.symm
    have e3 : v3 = ev_u1 (ev_u1 w (19 + 9 * b + 0) v1) (19 + 9 * b + 4) v2 (19 + 9 * k + 0) + 1 := hv3.symm
    have e4 : v4 = ev_u1 (ev_u1 (ev_u1 w (19 + 9 * b + 0) v1) (19 + 9 * b + 4) v2) (19 + 9 * k + 0) v3 (19 + 9 * k + 5) + 1 := hv4.symm
    have e5 : v5 = ev_u1 (ev_u1 (ev_u1 (ev_u1 w (19 + 9 * b + 0) v1) (19 + 9 * b + 4) v2) (19 + 9 * k + 0) v3) (19 + 9 * k + 5) v4 15 + 1 := by
      rw [u1n (by omega), u1n (by omega), u1n (by omega), u1n (by omega)]
      exact hv5.symm
    unfold ms_moves
    rw [e5, e4, e3, e2, e1]
  rw [c5]
  exact p5
/-- the vector of a request that is added -/
def ms_add (w : Nat → Int32) (C : Nat) (x y z : Int32) : Nat → Int32 := ev_u1 (ev_u1 (ev_u1 (ev_u1 (ev_u1 w (375 + 6 * C + 0) x) (375 + 6 * C + 1) y) (375 + 6 * C + 2) z) (375 + 6 * C + 4) (-1)) 9 (Int32.ofNat (C + 1))
theorem lm_add (hq : LQ q i) (h : LV e i t w u) {C : Nat} (hC : w 9 = Int32.ofNat C) (h40 : C < 40) (x y z : Int32) : ∃ e', EV (262, 0, [ev_R 200 i, ev_I x, ev_I y, ev_I z], [], 0, 0) (n, lk, d, wn, tt, e, q) = some (.inl (some (ev_I (Int32.ofNat C))), (n, lk, d, wn, tt, e', q)) ∧ LV e' i t (ms_add w C x y z) u ∧ LF e e' i := by
  have key := bk_262_0 EV i x y z n lk d wn tt e q
  have h5 : e 200 i 5 = Int32.ofNat C := (h _ _ _ _ _ la_reqs).trans hC
  obtain ⟨-, -, k11, k12, k13, -, k15, -⟩ := hq.1
  simp only [k11, k12, k13, k15, ev_lq_s, h5, ni_in (n := C) (N := 40) h40 (by omega), ni_c (n := C) (by omega), cond_true, ni_1] at key
  refine ⟨_, EV_bk (k := 400) key, ?_, (((((LF.rf e i).put (la_rq (x := 0) (by omega) h40)).put (la_rq (x := 1) (by omega) h40)).put (la_rq (x := 2) (by omega) h40)).put (la_rq (x := 4) (by omega) h40)).put la_reqs⟩
  exact ((((h.put0 (la_rq (x := 0) (by omega) h40)).put0 (la_rq (x := 1) (by omega) h40)).put0 (la_rq (x := 2) (by omega) h40)).put0 (la_rq (x := 4) (by omega) h40)).put0 la_reqs
theorem lm_come (hq : LQ q i) (h : LV e i t w u) {b p : Nat} {l : List Nat} (hb : b < 4) (hp : p < 40) (hw : w (375 + 6 * p + 0) = Int32.ofNat b) (hl : QL u b l) (h40 : l.length < 40) : ∃ e' u', EV (263, 0, [ev_R 200 i, ev_I (Int32.ofNat p)], [], 0, 0) (n, lk, d, wn, tt, e, q) = some (.inl none, (n, lk, d, wn, tt, e', q)) ∧ LV e' i t (ms_come w p) u' ∧ LF e e' i ∧ QL u' b (l ++ [p]) ∧ ∀ K, K ≠ 5 * b + 0 → K ≠ 100 + 40 * b + l.length → u' K = u K := by
  have key := bk_263_0 EV i (Int32.ofNat p) n lk d wn tt e q
  obtain ⟨-, -, k11, -, -, k14, -, k16⟩ := hq.1
  obtain ⟨k7, -, -, -, -, -, -, k19, -⟩ := hq.2 b hb
  have h1 : e 204 (i + 3) p = Int32.ofNat b := (h _ _ _ _ _ (la_rq (x := 0) (by omega) hp)).trans hw
  have h2 : e 201 (i + 9 + 9 * b) 8 = Int32.ofNat l.length := (h _ _ _ _ _ (la_bx hb (k := 0) (by omega))).trans hl.1
  simp only [k11, k14, k16, ev_lq_s, ni_in (n := p) (N := 40) hp (by omega), ni_c (n := p) (by omega), cond_true, h1, ni_in (n := b) (N := 4) hb (by omega), ni_c (n := b) (by omega), k7, k19, h2, ni_in (n := l.length) (N := 40) h40 (by omega), ni_c (n := l.length) (by omega), ni_1] at key
  have p1 := h.put2 (la_bx hb (k := 0) (by omega)) (v := Int32.ofNat (l.length + 1))
  have p2 := p1.put2 (la_qu hb (p := l.length) h40) (v := Int32.ofNat p)
  have p3 := p2.put0 (la_rq (x := 3) (q := p) (by omega) hp) (v := 1)
  have p4 := (p3.free (K := 375 + 6 * p + 5) (v := w 10) (Or.inr ⟨p, rfl⟩)).free (K := 10) (v := w 10 + 1) (Or.inl rfl)
  refine ⟨_, _, EV_bk (k := 400) key, p4, (((LF.rf e i).put (la_bx hb (k := 0) (by omega))).put (la_qu hb (p := l.length) h40)).put (la_rq (x := 3) (by omega) hp), ⟨?_, ?_, fun j x hj => ?_⟩, fun K g1 g2 => ?_⟩
  · rw [u1n (by omega), u1s, List.length_append]
    rfl
  · rw [List.length_append]
    exact h40
  · by_cases c : j < l.length
    · rw [List.getElem?_append_left c] at hj
      rw [u1n (by omega), u1n (by omega)]
      exact hl.2.2 j x hj
    · have hjl : j = l.length := by
        have := (List.getElem?_eq_some_iff.mp hj).1
        rw [List.length_append] at this
        have e1 : ([p] : List Nat).length = 1 := rfl
        omega
      subst hjl
      rw [List.getElem?_append_right (Nat.le_refl _), Nat.sub_self] at hj
      cases hj
      exact u1s _ _ _
  · rw [u1n g2, u1n g1]
theorem lm_pull (hq : LQ q i) (h : LV e i t w u) {b p : Nat} {l : List Nat} (hb : b < 4) (hl : QL u b (p :: l)) : ∃ e' u', EV (259, 0, [ev_R 201 (i + 9 + 9 * b)], [], 0, 0) (n, lk, d, wn, tt, e, q) = some (.inl (some (ev_I (Int32.ofNat p))), (n, lk, d, wn, tt, e', q)) ∧ LV e' i t w u' ∧ LF e e' i ∧ QL u' b l ∧ ∀ K, K ≠ 5 * b + 0 → ¬ (100 + 40 * b ≤ K ∧ K < 100 + 40 * b + 40) → u' K = u K := by
  have key := bk_259_0 EV (i + 9 + 9 * b) n lk d wn tt e q
  obtain ⟨-, -, -, -, -, -, -, k19, -⟩ := hq.2 b hb
  have h40 : l.length + 1 ≤ 40 := hl.2.1
  have h2 : e 201 (i + 9 + 9 * b) 8 = Int32.ofNat (l.length + 1) := (h _ _ _ _ _ (la_bx hb (k := 0) (by omega))).trans hl.1
  have h3 : Int32.ofNat (l.length + 1) - 1 = Int32.ofNat l.length := by rw [← ni_1]; simp
  have h4 : ¬ (Int32.ofNat l.length < 0) := fun z => absurd ((ni_lt (a := l.length) (b := 0) (by omega) (by omega)).mp z) (by omega)
  have h5 : e 204 (i + 9 + 9 * b + 7) 0 = Int32.ofNat p := (h _ _ _ _ _ (la_qu hb (p := 0) (by omega))).trans (hl.2.2 0 p rfl)
  have b1 : Nat.ble (1 + l.length) 40 = true := Nat.ble_eq.mpr (by omega)
  have b2 : Nat.ble (0 + l.length) 40 = true := Nat.ble_eq.mpr (by omega)
  simp only [k19, ev_lq_s, h2, h3, u3_eq (e := e) (r := 201) (i := i + 9 + 9 * b) (k := 8) (r' := 201) (i' := i + 9 + 9 * b) (k' := 8) ⟨rfl, rfl, rfl⟩, h4, decide_false, Bool.not_false, cond_true, ni_c (n := l.length) (by omega), b1, b2, Bool.and_self, h5] at key
  have p1 := h.put2 (la_bx hb (k := 0) (by omega)) (v := Int32.ofNat l.length)
  refine ⟨_, fun K => if 100 + 40 * b ≤ K ∧ K < 100 + 40 * b + l.length then u (K + 1) else if K = 5 * b + 0 then Int32.ofNat l.length else u K, EV_bk (k := 400) key, fun r j x T K ha => ?_, fun r j x c => ?_, ⟨?_, by omega, fun j x hj => ?_⟩, fun K g1 g2 => ?_⟩
  · by_cases c : r = 204 ∧ j = i + 9 + 9 * b + 7
    · obtain ⟨rfl, rfl⟩ := c
      obtain ⟨rfl, hx, rfl⟩ : T = 2 ∧ x < 40 ∧ K = 100 + 40 * b + x := by
        have hh := ha
        unfold LA at hh
        rcases hh with hh | hh | hh | ⟨y, hh⟩ | ⟨y, hh⟩ | ⟨y, hh⟩ | ⟨y, hh⟩ | ⟨y, hh⟩ <;> first | omega | (refine ⟨by omega, by omega, by omega⟩)
      rw [w3_eq ⟨rfl, rfl⟩]
      show va_cpy _ _ 1 0 l.length x = if _ then _ else _
      unfold va_cpy
      by_cases c : x < l.length
      · rw [if_pos ⟨by omega, by omega⟩, if_pos ⟨by omega, by omega⟩, show 1 + (x - 0) = x + 1 by omega]
        exact h _ _ _ _ _ (la_qu hb (p := x + 1) (by omega))
      · rw [if_neg (by omega), if_neg (by omega), if_neg (by omega)]
        exact h _ _ _ _ _ (la_qu hb hx)
    · rw [w3_ne c, p1 _ _ _ _ _ ha]
      match T, ha with
      | 0, _ => rfl
      | 1, _ => rfl
      | T + 2, ha =>
        show ev_u1 u (5 * b + 0) _ K = if _ then _ else if _ then _ else _
        rw [if_neg]
        · rfl
        · intro z
          unfold LA at ha
          rcases ha with hh | hh | hh | ⟨y, hh⟩ | ⟨y, hh⟩ | ⟨y, hh⟩ | ⟨y, hh⟩ | ⟨y, hh⟩ <;> omega
  · rw [w3_ne, u3_ne]
    · rintro ⟨rfl, rfl, rfl⟩
      exact c ⟨by omega, by omega, by omega, by omega⟩
    · rintro ⟨rfl, rfl⟩
      exact c ⟨by omega, by omega, by omega, by omega⟩
  · show (if _ then _ else if _ then _ else _) = _
    rw [if_neg (by omega), if_pos rfl]
  · have hjl := (List.getElem?_eq_some_iff.mp hj).1
    show (if _ then _ else if _ then _ else _) = _
    rw [if_pos ⟨by omega, by omega⟩]
    exact hl.2.2 (j + 1) x hj
  · show (if _ then _ else if _ then _ else _) = _
    rw [if_neg (by omega), if_neg g1]
end LM4
