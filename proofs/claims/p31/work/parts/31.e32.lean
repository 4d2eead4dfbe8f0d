/-! THE PROGRAM AGAINST THE REFERENCE, 18: a bank acts -/
theorem CS_ghost {d : Nat → Nat → Nat → Int32} {i : Nat} {w : Nat → Int32} {C K b : Nat} {v : Int32} (hs : CS d i w C K) (hb : b < 4) : CS d i (ev_u1 w (19 + 9 * b + 2) v) C K := by
  have hs0 := hs
  obtain ⟨s1, s2, s3, s4, s5, -, -, s8, s9, s10, -⟩ := hs
  refine CS_lo hs0 (fun r hr => rfl) (fun j hj => u1n (by omega)) ?_ ?_ ?_ ?_ ?_ ?_ ?_ ?_ (fun q _ => rfl)
  · intro j hj
    rw [u1n (by omega), s1 j hj]
  · rw [u1n (by omega), s2]
  · rw [u1n (by omega), s3]
  · rw [u1n (by omega), s4]
  · rw [u1n (by omega), s5]
  · intro j hj
    rw [u1n (by omega), s8 j hj]
  · intro b hb
    rw [u1n (j := 19 + 9 * b + 0) (by omega), u1n (j := 19 + 9 * b + 1) (by omega), u1n (j := 19 + 9 * b + 3) (by omega), u1n (j := 19 + 9 * b + 4) (by omega), u1n (j := 19 + 9 * b + 5) (by omega), u1n (j := 19 + 9 * b + 6) (by omega), u1n (j := 19 + 9 * b + 7) (by omega)]
    exact s9 b hb
  · intro c hc
    rw [u1n (j := 55 + 5 * c + 0) (by omega), u1n (j := 55 + 5 * c + 1) (by omega), u1n (j := 55 + 5 * c + 2) (by omega), u1n (j := 55 + 5 * c + 3) (by omega), u1n (j := 55 + 5 * c + 4) (by omega)]
    exact s10 c hc
def mc_serve (w : Nat → Int32) (b q r : Nat) : Nat → Int32 :=
  ev_u1 (ev_u1 (ev_u1 (ev_u1 (ev_u1 (ev_u1 (ev_u1 (ev_u1 (ev_u1 (ev_u1 w (55 + 5 * (16 * b + r) + 0) 0) (55 + 5 * (16 * b + r) + 1) 0) (55 + 5 * (16 * b + r) + 3) (w (55 + 5 * (16 * b + r) + 3) + 1)) (375 + 6 * q + 3) 2) (375 + 6 * q + 4) (w 8))
    (19 + 9 * b + 1) (w (19 + 9 * b + 1) + w 4)) 16 (w 16 + 1)) 17 (w 17 + (w 8 - w (375 + 6 * q + 2)))) 18 (if w 18 < w 8 - w (375 + 6 * q + 2) then w 8 - w (375 + 6 * q + 2) else w 18)) (19 + 9 * b + 2) (w (19 + 9 * b + 2) + 1)
def mc_refresh (w : Nat → Int32) (b r : Nat) (u : Prop) [Decidable u] : Nat → Int32 :=
  if u then ev_u1 (ev_u1 (ev_u1 (ev_u1 (ev_u1 (ev_u1 (ev_u1 w (55 + 5 * (16 * b + r) + 0) 0) (55 + 5 * (16 * b + r) + 1) 0) (55 + 5 * (16 * b + r) + 2) (w (55 + 5 * (16 * b + r) + 2) + 1)) (19 + 9 * b + 3) (w (19 + 9 * b + 3) + 1)) (19 + 9 * b + 0) (w (19 + 9 * b + 0) - 1)) 12 (w 12 + 1)) 13 (w 13 + 1)
  else ev_u1 (ev_u1 (ev_u1 (ev_u1 (ev_u1 (ev_u1 w (55 + 5 * (16 * b + r) + 0) 0) (55 + 5 * (16 * b + r) + 1) 0) (55 + 5 * (16 * b + r) + 2) (w (55 + 5 * (16 * b + r) + 2) + 1)) (19 + 9 * b + 3) (w (19 + 9 * b + 3) + 1)) (19 + 9 * b + 0) (w (19 + 9 * b + 0) - 1)) 12 (w 12 + 1)
def mc_one (w : Nat → Int32) (b wi : Nat) (sv : Option Nat) (to : Int32) : Nat → Int32 := match sv with
  | some q => mc_serve w b q to.toNatClampNeg
  | none => if to = -1 then w else mc_refresh w b to.toNatClampNeg (wi = 1)
def mc_sv (k : Nat) (g : Bool) (f : Option Nat) : Option Nat := if ms_rf k ∧ g = true then none else f
def mc_to (w : Nat → Int32) (k : Nat) (g : Bool) (r : Nat) (f : Option Nat) : Int32 := if ms_rf k ∧ g = true then Int32.ofNat r else (match f with
  | none => -1
  | some q => w (375 + 6 * q + 1))
/-- what an act of bank b leaves as it was -/
def FA (d d' : Nat → Nat → Nat → Int32) (i b : Nat) : Prop := (∀ r j, (24 ≤ r ∧ r ≠ 37 ∧ r ≠ 38) ∨ (r < 24 ∧ j ≠ i) → d' r j = d r j) ∧ ∀ x, x ≠ b → d' 37 0 x = d 37 0 x ∧ d' 38 0 x = d 38 0 x
theorem FA_FT {d d' : Nat → Nat → Nat → Int32} {i b : Nat} (h : FA d d' i b) : FT d d' i := fun r j z => h.1 r j (z.elim (fun a => .inl (by omega)) (fun a => .inr a))
theorem FA_t {d d' d'' : Nat → Nat → Nat → Int32} {i b : Nat} (h : FA d d' i b) (h' : FA d' d'' i b) : FA d d'' i b := ⟨fun r j z => (h'.1 r j z).trans (h.1 r j z), fun x z => ⟨(h'.2 x z).1.trans (h.2 x z).1, (h'.2 x z).2.trans (h.2 x z).2⟩⟩
theorem FA_FR {d d' : Nat → Nat → Nat → Int32} {i b : Nat} (h : FR d d' i) : FA d d' i b := ⟨fun r j z => h r j (z.elim (fun a => .inl a.1) (fun a => .inr a.2)), fun x _ => ⟨by rw [h 37 0 (.inl (by decide))], by rw [h 38 0 (.inl (by decide))]⟩⟩
theorem FA_37 {d : Nat → Nat → Nat → Int32} {i b : Nat} {v : Int32} : FA d (ev_u3 d 37 0 b v) i b := ⟨fun r j z => by rw [u3n (by omega)], fun x z => ⟨u3x z, by rw [u3n (by decide)]⟩⟩
theorem FA_38 {d : Nat → Nat → Nat → Int32} {i b : Nat} {v : Int32} : FA d (ev_u3 d 38 0 b v) i b := ⟨fun r j z => by rw [u3n (by omega)], fun x z => ⟨by rw [u3n (by decide)], u3x z⟩⟩
section EC13
variable {n : Nat} {lk : Nat → Nat → Nat → Bool} {d : Nat → Nat → Nat → Int32} {o : ev_W}
theorem ec_touch (hl : LK lk) {i : Nat} (hi : i < 15) {c : Nat} (hc : c < 64) : EV (55, 0, [ev_R 11 i, ev_I (Int32.ofNat c)], [], 0, 0) (n, lk, d, o) = some (.inl none, (n, lk, ev_u3 (ev_u3 d 12 i c 0) 13 i c 0, o)) := by
  refine EV_bk (k := 400) ?_
  rw [bk_55_0]
  simp only [hl 11 i 0 rfl hi (by decide), hl 11 i 1 rfl hi (by decide), cond_true, ni_in (n := c) (N := 64) (by omega) (by omega), ni_c (n := c) (by omega)]
theorem ec_serve (hl : LK lk) {i : Nat} (hi : i < 15) {w : Nat → Int32} {C K b q r : Nat} (hs : CS d i w C K) (hb : b < 4) (hq : q < C) (hr : r < 16) (hrow : w (375 + 6 * q + 1) = Int32.ofNat r) (hne : w (375 + 6 * q + 3) ≠ 0) :
    ∃ d', EV (68, 0, [ev_R 0 i, ev_I (Int32.ofNat b), ev_I (Int32.ofNat q)], [], 0, 0) (n, lk, d, o) = some (.inl none, (n, lk, d', o)) ∧ FR d d' i ∧ CS d' i (mc_serve w b q r) C K := by
  have h40 := cs_C hs
  have g19 := cs_19 hs hq
  rw [hrow] at g19
  have c1 := CS_lost (v := 0) (CS_age (v := 0) hs (k := 16 * b + r) (by omega)) (k := 16 * b + r) (by omega)
  have c2 := CS_rowAccesses (v := w (55 + 5 * (16 * b + r) + 3) + 1) c1 (k := 16 * b + r) (by omega)
  have c3 := CS_rq (r := 21) (x := 3) (v := 2) c2 hq rfl (by decide) (fun _ => ⟨by rw [u1n (by omega), u1n (by omega), u1n (by omega)]; exact hne, by decide⟩)
  have c4 := CS_rq (r := 22) (x := 4) (v := w 8) c3 hq rfl (by decide) (fun z => absurd z (by decide))
  have c5 := CS_heat (v := w (19 + 9 * b + 1) + w 4) c4 hb
  have c6 := CS_sum (k := 5) (v := w 16 + 1) c5 (by decide)
  have c7 := CS_waits (v := w 17 + (w 8 - w (375 + 6 * q + 2))) c6
  have c8 := CS_longest (v := if w 18 < w 8 - w (375 + 6 * q + 2) then w 8 - w (375 + 6 * q + 2) else w 18) c7
  have c9 := CS_ghost (v := w (19 + 9 * b + 2) + 1) c8 hb
  have f : ∀ {d : Nat → Nat → Nat → Int32} {r k : Nat} {v : Int32}, r < 24 → FR d (ev_u3 d r i k v) i := fun hr => FR_u3 hr
  refine ⟨_, ?_, FR_t (FR_t (FR_t (FR_t (FR_t (FR_t (FR_t (FR_t (f (by decide)) (f (by decide))) (f (by decide))) (f (by decide))) (f (by decide))) (f (by decide))) (f (by decide))) (f (by decide))) (f (by decide)), c9⟩
  refine EV_bk (k := 400) ?_
  rw [bk_68_0]
  simp only [hl 0 i 8 rfl hi (by decide), hl 17 i 3 rfl hi (by decide), cond_true, ni_in (n := q) (N := 40) (by omega) (by omega), ni_c (n := q) (by omega), g19]
  rw [ec_cellOf]
  simp only [ev_bi, hl 0 i 7 rfl hi (by decide), cond_true]
  rw [ec_touch hl hi (by omega)]
  have g15 := cs_15 hs (c := 16 * b + r) (by omega)
  have g5 := cs_5 hs hb
  have g1 : d 1 i 4 = w 4 := cs_1 hs (by decide)
  have g2 : d 2 i 5 = w 16 := cs_2 hs (k := 5) (by decide)
  simp only [ev_bv, hl 0 i 4 rfl hi (by decide), hl 0 i 5 rfl hi (by decide), hl 0 i 6 rfl hi (by decide), hl 0 i 7 rfl hi (by decide), hl 0 i 8 rfl hi (by decide), hl 11 i 3 rfl hi (by decide), hl 17 i 5 rfl hi (by decide), hl 17 i 6 rfl hi (by decide), hl 17 i 4 rfl hi (by decide), hl 3 i 1 rfl hi (by decide), cond_true, ni_in (n := q) (N := 40) (by omega) (by omega), ni_c (n := q) (by omega), ni_in (n := b) (N := 4) (by omega) (by omega), ni_c (n := b) (by omega), ni_in (n := 16 * b + r) (N := 64) (by omega) (by omega), ni_c (n := 16 * b + r) (by omega)]
  simp (disch := omega) only [u3n, u3x, g15, g5, g1, g2, cs_tm hs, cs_wt hs, cs_gr hs, cs_20 hs hq]
theorem ec_refresh (hl : LK lk) {i : Nat} (hi : i < 15) {w : Nat → Int32} {C K b r k : Nat} (hs : CS d i w C K) (hb : b < 4) (hr : r < 16) (hk : k < 7) (hw : w (19 + 9 * b + 6) = Int32.ofNat k) :
    ∃ d', EV (67, 0, [ev_R 0 i, ev_I (Int32.ofNat b), ev_I (Int32.ofNat r)], [], 0, 0) (n, lk, d, o) = some (.inl none, (n, lk, d', o)) ∧ FR d d' i ∧ CS d' i (mc_refresh w b r (k = 1)) C K := by
  have c1 := CS_lost (v := 0) (CS_age (v := 0) hs (k := 16 * b + r) (by omega)) (k := 16 * b + r) (by omega)
  have c2 := CS_rowRefreshes (v := w (55 + 5 * (16 * b + r) + 2) + 1) c1 (k := 16 * b + r) (by omega)
  have c3 := CS_refreshes (v := w (19 + 9 * b + 3) + 1) c2 hb
  have c4 := CS_debt (v := w (19 + 9 * b + 0) - 1) c3 hb
  have c5 := CS_sum (k := 1) (v := w 12 + 1) c4 (by decide)
  have c6 := CS_sum (k := 2) (v := w 13 + 1) c5 (by decide)
  have f : ∀ {d : Nat → Nat → Nat → Int32} {r k : Nat} {v : Int32}, r < 24 → FR d (ev_u3 d r i k v) i := fun hr => FR_u3 hr
  have g14 := cs_14 hs (c := 16 * b + r) (by omega)
  have g6 := cs_6 hs hb
  have g4 := cs_4 hs hb
  have g9 := cs_9 hs hb
  rw [hw] at g9
  have g1 : d 2 i 1 = w 12 := cs_2 hs (k := 1) (by decide)
  have g2 : d 2 i 2 = w 13 := cs_2 hs (k := 2) (by decide)
  by_cases z : k = 1
  · have e : mc_refresh w b r (k = 1) = _ := if_pos z
    rw [← e] at c6
    refine ⟨_, ?_, FR_t (FR_t (FR_t (FR_t (FR_t (FR_t (f (by decide)) (f (by decide))) (f (by decide))) (f (by decide))) (f (by decide))) (f (by decide))) (f (by decide)), c6⟩
    refine EV_bk (k := 400) ?_
    rw [bk_67_0]
    rw [ec_cellOf]
    simp only [ev_bi, hl 0 i 7 rfl hi (by decide), cond_true]
    rw [ec_touch hl hi (by omega)]
    simp only [ev_bv, hl 0 i 4 rfl hi (by decide), hl 0 i 5 rfl hi (by decide), hl 0 i 6 rfl hi (by decide), hl 0 i 7 rfl hi (by decide), hl 0 i 8 rfl hi (by decide), hl 11 i 2 rfl hi (by decide), hl 3 i 0 rfl hi (by decide), hl 3 i 2 rfl hi (by decide), hl 3 i 5 rfl hi (by decide), cond_true, ni_in (n := b) (N := 4) (by omega) (by omega), ni_c (n := b) (by omega), ni_in (n := 16 * b + r) (N := 64) (by omega) (by omega), ni_c (n := 16 * b + r) (by omega)]
    simp (disch := omega) only [u3n, u3x, g14, g6, g4, g9, g1, g2]
    rw [if_pos ((ni_e1 (by omega)).mpr z)]
  · have e : mc_refresh w b r (k = 1) = _ := if_neg z
    rw [← e] at c5
    refine ⟨_, ?_, FR_t (FR_t (FR_t (FR_t (FR_t (f (by decide)) (f (by decide))) (f (by decide))) (f (by decide))) (f (by decide))) (f (by decide)), c5⟩
    refine EV_bk (k := 400) ?_
    rw [bk_67_0]
    rw [ec_cellOf]
    simp only [ev_bi, hl 0 i 7 rfl hi (by decide), cond_true]
    rw [ec_touch hl hi (by omega)]
    simp only [ev_bv, hl 0 i 4 rfl hi (by decide), hl 0 i 5 rfl hi (by decide), hl 0 i 6 rfl hi (by decide), hl 0 i 7 rfl hi (by decide), hl 0 i 8 rfl hi (by decide), hl 11 i 2 rfl hi (by decide), hl 3 i 0 rfl hi (by decide), hl 3 i 2 rfl hi (by decide), hl 3 i 5 rfl hi (by decide), cond_true, ni_in (n := b) (N := 4) (by omega) (by omega), ni_c (n := b) (by omega), ni_in (n := 16 * b + r) (N := 64) (by omega) (by omega), ni_c (n := 16 * b + r) (by omega)]
    simp (disch := omega) only [u3n, u3x, g14, g6, g4, g9, g1, g2]
    rw [if_neg (fun x => z ((ni_e1 (by omega)).mp x))]
theorem ec_actServe (hl : LK lk) {i : Nat} (hi : i < 15) {w : Nat → Int32} {C K b q r : Nat} (hs : CS d i w C K) (hb : b < 4) (hq : q < C) (hr : r < 16) (hrow : w (375 + 6 * q + 1) = Int32.ofNat r) (hne : w (375 + 6 * q + 3) ≠ 0) :
    ∃ d', EV (68, 0, [ev_R 0 i, ev_I (Int32.ofNat b), ev_I (Int32.ofNat q)], [], 0, 0) (n, lk, ev_u3 (ev_u3 d 37 0 b (w (375 + 6 * q + 1))) 38 0 b (Int32.ofNat q), o) = some (.inl none, (n, lk, d', o)) ∧ FA d d' i b ∧ d' 37 0 b = w (375 + 6 * q + 1) ∧ d' 38 0 b = Int32.ofNat q ∧ CS d' i (mc_serve w b q r) C K := by
  obtain ⟨d', e1, e2, e3⟩ := ec_serve (n := n) (o := o) (d := ev_u3 (ev_u3 d 37 0 b (w (375 + 6 * q + 1))) 38 0 b (Int32.ofNat q)) hl hi (CS_d hs (fun x hx => by rw [u3n (by omega), u3n (by omega)])) hb hq hr hrow hne
  refine ⟨d', e1, FA_t (FA_t FA_37 FA_38) (FA_FR e2), ?_, ?_, e3⟩
  · rw [e2 37 0 (.inl (by decide)), u3n (by decide), u3s]
  · rw [e2 38 0 (.inl (by decide)), u3s]
theorem ec_act (hl : LK lk) {i : Nat} (hi : i < 15) {w : Nat → Int32} {C K b k r : Nat} {g : Bool} {f : Option Nat} (hs : CS d i w C K) (hb : b < 4) (hk : k < 7) (h9 : w (19 + 9 * b + 6) = Int32.ofNat k) (h10 : w (19 + 9 * b + 7) = ms_b01 g)
    (h34 : d 34 0 b = Int32.ofNat r) (hr : r < 16) (h36 : d 36 0 b = ms_en f) (hf : ∀ q, f = some q → q < C ∧ w (375 + 6 * q + 3) ≠ 0 ∧ ∃ r, r < 16 ∧ w (375 + 6 * q + 1) = Int32.ofNat r) :
    ∃ d', EV (83, 0, [ev_R 32 0, ev_R 0 i, ev_I (Int32.ofNat b)], [], 0, 0) (n, lk, d, o) = some (.inl none, (n, lk, d', o)) ∧ FA d d' i b ∧ d' 37 0 b = mc_to w k g r f ∧ d' 38 0 b = ms_en (mc_sv k g f) ∧ CS d' i (mc_one w b k (mc_sv k g f) (mc_to w k g r f)) C K := by
  have h40 := cs_C hs
  have g9 := cs_9 hs hb
  rw [h9] at g9
  have g10 := cs_10 hs hb
  rw [h10] at g10
  have f0 : FA d (ev_u3 (ev_u3 d 37 0 b (-1)) 38 0 b (-1)) i b := FA_t FA_37 FA_38
  have hs0 : CS (ev_u3 (ev_u3 d 37 0 b (-1)) 38 0 b (-1)) i w C K := CS_d hs (fun x hx => by rw [u3n (by omega), u3n (by omega)])
  have hha := ec_has (i := i) (x := ms_en f) (μ := (n, lk, ev_u3 (ev_u3 d 37 0 b (-1)) 38 0 b (-1), o))
  simp only [cs_ct hs0, cs_w9 hs0] at hha
  -- what is done where no refresh is granted
  have rest : ¬ (ms_rf k ∧ g = true) → ∃ d', (ev_bi (EV (46, 0, [ev_R 17 i, ev_I (ms_en f)], [], 0, 0) (n, lk, ev_u3 (ev_u3 d 37 0 b (-1)) 38 0 b (-1), o)) ev_no (fun z8 μ5 => (if z8 = 0 then some (.inl none, μ5) else (bif μ5.2.1 32 0 5 then (bif μ5.2.1 0 i 8 then (bif μ5.2.1 17 i 3 then (bif ev_in (ms_en f) 40 then (bif ev_in (Int32.ofNat b) 4 then (bif μ5.2.1 32 0 6 then (bif ev_in (Int32.ofNat b) 4 then (ev_bv (EV (68, 0, [ev_R 0 i, ev_I (Int32.ofNat b), ev_I (ms_en f)], [], 0, 0) (μ5.1, μ5.2.1, (ev_u3 (ev_u3 μ5.2.2.1 37 0 (Int32.ofNat b).toNatClampNeg (μ5.2.2.1 19 i (ms_en f).toNatClampNeg)) 38 0 (Int32.ofNat b).toNatClampNeg (ms_en f)), μ5.2.2.2)) ev_no (fun μ9 => some (.inl none, μ9))) else none) else none) else none) else none) else none) else none) else none)))) = some (.inl none, (n, lk, d', o)) ∧
      FA d d' i b ∧ d' 37 0 b = mc_to w k g r f ∧ d' 38 0 b = ms_en (mc_sv k g f) ∧ CS d' i (mc_one w b k (mc_sv k g f) (mc_to w k g r f)) C K := by
    intro hn
    have e1 : mc_sv k g f = f := if_neg hn
    cases f with
    | none =>
      have e2 : mc_to w k g r none = -1 := if_neg hn
      refine ⟨_, ?_, f0, ?_, ?_, ?_⟩
      · rw [hha, if_neg (show ¬ ((0 : Int32) ≤ ms_en none ∧ ms_en none < Int32.ofNat C) from fun z => absurd z.1 (by decide))]
        simp only [ev_bi, if_true]
      · rw [e2, u3n (by decide), u3s]
      · rw [e1, u3s]; rfl
      · rw [e1, e2]
        exact hs0
    | some q =>
      obtain ⟨hq, hne, r', hr', hrow⟩ := hf q rfl
      have e2 : mc_to w k g r (some q) = w (375 + 6 * q + 1) := if_neg hn
      have e0 : (0 : Int32) ≤ ms_en (some q) ∧ ms_en (some q) < Int32.ofNat C := ⟨(ni_le (a := 0) (by omega) (by omega)).mpr (Nat.zero_le _), (ni_lt (by omega) (by omega)).mpr hq⟩
      have i1 : ev_in (ms_en (some q)) 40 = true := ni_in (n := q) (by omega) (by omega)
      have i2 : (ms_en (some q)).toNatClampNeg = q := ni_c (n := q) (by omega)
      obtain ⟨d', y1, y2, y3, y4, y5⟩ := ec_actServe (n := n) (o := o) hl hi hs0 hb hq hr' hrow hne
      refine ⟨d', ?_, FA_t f0 y2, ?_, ?_, ?_⟩
      · rw [hha, if_pos e0]
        simp only [ev_bi, i1, i2, hl 32 0 5 rfl (by decide) (by decide), hl 32 0 6 rfl (by decide) (by decide), hl 0 i 8 rfl hi (by decide), hl 17 i 3 rfl hi (by decide), cond_true, ni_in (n := b) (N := 4) (by omega) (by omega), ni_c (n := b) (by omega), cs_19 hs0 hq]
        rw [if_neg (by decide)]
        have y1' : EV (68, 0, [ev_R 0 i, ev_I (Int32.ofNat b), ev_I (ms_en (some q))], [], 0, 0) (n, lk, ev_u3 (ev_u3 (ev_u3 (ev_u3 d 37 0 b (-1)) 38 0 b (-1)) 37 0 b (w (375 + 6 * q + 1))) 38 0 b (ms_en (some q)), o) = some (.inl none, (n, lk, d', o)) := y1
        rw [y1']
        simp only [ev_bv]
      · rw [e2, y3]
      · rw [e1, y4]; rfl
      · rw [e1, e2, hrow]
        show CS d' i (mc_serve w b q (Int32.ofNat r').toNatClampNeg) C K
        rw [ni_c (by omega)]
        exact y5
  by_cases z : ms_rf k
  · cases hg : g with
    | true =>
      subst hg
      have e1 : mc_sv k true f = none := if_pos ⟨z, rfl⟩
      have e2 : mc_to w k true r f = Int32.ofNat r := if_pos ⟨z, rfl⟩
      have e3 : ¬ Int32.ofNat r = -1 := ms_en_ne (by omega)
      obtain ⟨d', y1, y2, y3⟩ := ec_refresh (n := n) (o := o) (d := ev_u3 (ev_u3 (ev_u3 d 37 0 b (-1)) 38 0 b (-1)) 37 0 b (Int32.ofNat r)) hl hi (CS_d hs0 (fun x hx => by rw [u3n (by omega)])) hb hr hk h9
      refine ⟨d', ?_, FA_t (FA_t f0 FA_37) (FA_FR y2), ?_, ?_, ?_⟩
      · refine EV_bk (k := 400) ?_
        rw [bk_83_0]
        simp only [hl 32 0 4 rfl (by decide) (by decide), hl 32 0 5 rfl (by decide) (by decide), hl 32 0 6 rfl (by decide) (by decide), hl 0 i 6 rfl hi (by decide), hl 3 i 5 rfl hi (by decide), cond_true, ni_in (n := b) (N := 4) (by omega) (by omega), ni_c (n := b) (by omega), g9]
        rw [ec_rfr hk]
        simp only [ev_bi]
        rw [if_pos z, if_neg (by decide)]
        simp (disch := omega) only [hl 0 i 6 rfl hi (by decide), hl 3 i 6 rfl hi (by decide), cond_true, u3n, g10]
        rw [if_pos (show ms_b01 true = 1 from rfl)]
        simp only [hl 32 0 2 rfl (by decide) (by decide), hl 32 0 5 rfl (by decide) (by decide), cond_true, h34]
        rw [y1]
        simp only [ev_bv]
      · rw [e2, y2 37 0 (.inl (by decide)), u3s]
      · rw [e1, y2 38 0 (.inl (by decide)), u3n (by decide), u3s]; rfl
      · rw [e1, e2]
        show CS d' i (if Int32.ofNat r = -1 then w else mc_refresh w b (Int32.ofNat r).toNatClampNeg (k = 1)) C K
        rw [if_neg e3, ni_c (by omega)]
        exact y3
    | false =>
      subst hg
      obtain ⟨d', y1, y2⟩ := rest (fun x => absurd x.2 (by decide))
      refine ⟨d', ?_, y2⟩
      refine EV_bk (k := 400) ?_
      rw [bk_83_0]
      simp only [hl 32 0 4 rfl (by decide) (by decide), hl 32 0 5 rfl (by decide) (by decide), hl 32 0 6 rfl (by decide) (by decide), hl 0 i 6 rfl hi (by decide), hl 3 i 5 rfl hi (by decide), cond_true, ni_in (n := b) (N := 4) (by omega) (by omega), ni_c (n := b) (by omega), g9]
      rw [ec_rfr hk]
      simp only [ev_bi]
      rw [if_pos z, if_neg (by decide)]
      simp (disch := omega) only [hl 0 i 6 rfl hi (by decide), hl 3 i 6 rfl hi (by decide), cond_true, u3n, g10, h36]
      rw [if_neg (by decide)]
      simp only [hl 0 i 8 rfl hi (by decide), cond_true]
      simp only [ni_in (n := b) (N := 4) (by omega) (by omega), ni_c (n := b) (by omega)] at y1
      exact y1
  · obtain ⟨d', y1, y2⟩ := rest (fun x => z x.1)
    refine ⟨d', ?_, y2⟩
    refine EV_bk (k := 400) ?_
    rw [bk_83_0]
    simp only [hl 32 0 4 rfl (by decide) (by decide), hl 32 0 5 rfl (by decide) (by decide), hl 32 0 6 rfl (by decide) (by decide), hl 0 i 6 rfl hi (by decide), hl 3 i 5 rfl hi (by decide), cond_true, ni_in (n := b) (N := 4) (by omega) (by omega), ni_c (n := b) (by omega), g9, h36]
    rw [ec_rfr hk]
    simp only [ev_bi]
    rw [if_neg z, if_pos rfl]
    simp only [hl 0 i 8 rfl hi (by decide), cond_true]
    simp only [ni_in (n := b) (N := 4) (by omega) (by omega), ni_c (n := b) (by omega)] at y1
    exact y1
end EC13
