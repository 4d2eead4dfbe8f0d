/-! THE PROGRAM AGAINST THE REFERENCE, 20: the rows grow -/
def mc_row (w : Nat → Int32) (c : Nat) (bd : Int32) : Nat → Int32 :=
  if w (55 + 5 * c + 0) + 1 ≤ bd then ev_u1 w (55 + 5 * c + 0) (w (55 + 5 * c + 0) + 1)
  else if w (55 + 5 * c + 1) = 0 then ev_u1 (ev_u1 (ev_u1 w (55 + 5 * c + 0) (w (55 + 5 * c + 0) + 1)) (55 + 5 * c + 1) 1) (55 + 5 * c + 4) (w (55 + 5 * c + 4) + 1)
  else ev_u1 w (55 + 5 * c + 0) (w (55 + 5 * c + 0) + 1)
def mc_rl (w : Nat → Int32) (c : Nat) (bd : Int32) : Int32 := if w (55 + 5 * c + 0) + 1 ≤ bd then 0 else if w (55 + 5 * c + 1) = 0 then 1 else 0
def mc_rows (w : Nat → Int32) (b : Nat) (bd : Nat → Int32) (to : Int32) : Nat → Nat → Int32
  | 0 => w
  | r + 1 => if Int32.ofNat r = to then mc_rows w b bd to r else mc_row (mc_rows w b bd to r) (16 * b + r) (bd (16 * b + r))
def mc_rls (w : Nat → Int32) (b : Nat) (bd : Nat → Int32) (to : Int32) (l : Int32) : Nat → Int32
  | 0 => l
  | r + 1 => if Int32.ofNat r = to then mc_rls w b bd to l r else mc_rls w b bd to l r + mc_rl (mc_rows w b bd to r) (16 * b + r) (bd (16 * b + r))
def mc_gw (w : Nat → Int32) (bd : Nat → Int32) (to : Nat → Int32) (R : Nat) : Nat → Nat → Int32
  | 0 => w
  | b + 1 => mc_rows (mc_gw w bd to R b) b bd (to b) R
def mc_gl (w : Nat → Int32) (bd : Nat → Int32) (to : Nat → Int32) (R : Nat) : Nat → Int32
  | 0 => 0
  | b + 1 => mc_rls (mc_gw w bd to R b) b bd (to b) (mc_gl w bd to R b) R
section EC15
variable {n : Nat} {lk : Nat → Nat → Nat → Bool} {d : Nat → Nat → Nat → Int32} {o : ev_W}
theorem ec_grow1 (hl : LK lk) {i : Nat} (hi : i < 15) {w : Nat → Int32} {C K c : Nat} {bd : Int32} (hs : CS d i w C K) (hc : c < 64) :
    ∃ d', EV (56, 0, [ev_R 11 i, ev_I (Int32.ofNat c), ev_I bd], [], 0, 0) (n, lk, d, o) = some (.inl (some (ev_I (mc_rl w c bd))), (n, lk, d', o)) ∧ FR d d' i ∧ CS d' i (mc_row w c bd) C K := by
  have g12 := cs_12 hs hc
  have g13 := cs_13 hs hc
  have g16 := cs_16 hs hc
  have c1 := CS_age (v := w (55 + 5 * c + 0) + 1) hs hc
  have c2 := CS_rowLosses (v := w (55 + 5 * c + 4) + 1) (CS_lost (v := 1) c1 hc) hc
  unfold mc_rl mc_row
  by_cases h1 : w (55 + 5 * c + 0) + 1 ≤ bd
  · rw [if_pos h1, if_pos h1]
    refine ⟨_, ?_, FR_u3 (by decide), c1⟩
    refine EV_bk (k := 400) ?_
    rw [bk_56_0]
    simp only [hl 11 i 0 rfl hi (by decide), hl 11 i 1 rfl hi (by decide), hl 11 i 4 rfl hi (by decide), cond_true, ni_in (n := c) (N := 64) (by omega) (by omega), ni_c (n := c) (by omega), u3s, g12]
    rw [if_pos h1]
  · rw [if_neg h1, if_neg h1]
    by_cases h2 : w (55 + 5 * c + 1) = 0
    · rw [if_pos h2, if_pos h2]
      refine ⟨_, ?_, FR_t (FR_t (FR_u3 (by decide)) (FR_u3 (by decide))) (FR_u3 (by decide)), c2⟩
      refine EV_bk (k := 400) ?_
      rw [bk_56_0]
      simp only [hl 11 i 0 rfl hi (by decide), hl 11 i 1 rfl hi (by decide), hl 11 i 4 rfl hi (by decide), cond_true, ni_in (n := c) (N := 64) (by omega) (by omega), ni_c (n := c) (by omega), u3s, g12, g13, g16]
      rw [if_neg h1, if_pos h2]
    · rw [if_neg h2, if_neg h2]
      refine ⟨_, ?_, FR_u3 (by decide), c1⟩
      refine EV_bk (k := 400) ?_
      rw [bk_56_0]
      simp only [hl 11 i 0 rfl hi (by decide), hl 11 i 1 rfl hi (by decide), hl 11 i 4 rfl hi (by decide), cond_true, ni_in (n := c) (N := 64) (by omega) (by omega), ni_c (n := c) (by omega), u3s, g12, g13]
      rw [if_neg h1, if_neg h2]
theorem ec_growBank (hl : LK lk) {i : Nat} (hi : i < 15) {t w : Nat → Int32} {C K R b : Nat} {bd to : Nat → Int32} {l : Int32} (hs : CS d i w C K) (hL : CL d 1 t) (hR : t 1 = Int32.ofNat R) (h16 : R ≤ 16) (hb : b < 4)
    (h33 : ∀ r, r < R → d 33 0 (16 * b + r) = bd (16 * b + r)) (h37 : d 37 0 b = to b) :
    ∃ d', (∀ r, EV (84, 4, [ev_R 32 0, ev_R 0 i, ev_I (mc_rls w b bd (to b) l R), ev_I (Int32.ofNat (b + 1))], [], 0, 0) (n, lk, d', o) = some r → EV (84, 18, [ev_R 32 0, ev_R 0 i, ev_I l, ev_I (Int32.ofNat b), ev_I 0], [], 0, 0) (n, lk, d, o) = some r) ∧ FR d d' i ∧ CS d' i (mc_rows w b bd (to b) R) C K := by
  have loop : ∀ j r (d : Nat → Nat → Nat → Int32), r + j = R → CL d 1 t → CS d i (mc_rows w b bd (to b) r) C K → (∀ r, r < R → d 33 0 (16 * b + r) = bd (16 * b + r)) → d 37 0 b = to b →
      ∃ d', (∀ x, EV (84, 4, [ev_R 32 0, ev_R 0 i, ev_I (mc_rls w b bd (to b) l R), ev_I (Int32.ofNat (b + 1))], [], 0, 0) (n, lk, d', o) = some x → EV (84, 18, [ev_R 32 0, ev_R 0 i, ev_I (mc_rls w b bd (to b) l r), ev_I (Int32.ofNat b), ev_I (Int32.ofNat r)], [], 0, 0) (n, lk, d, o) = some x) ∧ FR d d' i ∧ CS d' i (mc_rows w b bd (to b) R) C K := by
    intro j
    induction j with
    | zero =>
      intro r d hr hL hs h33 h37
      have e : r = R := by omega
      subst e
      refine ⟨d, fun x h => ?_, FR_r d i, hs⟩
      refine EV_bk (k := 400) ?_
      rw [bk_84_18, hl 32 0 0 rfl (by decide) (by decide), cond_true, hL.2.1, hR, if_neg (fun z => by have := (ni_lt (by omega) (by omega)).mp z; omega), ni_1]
      exact h
    | succ j ih =>
      intro r d hr hL hs h33 h37
      have hlt : Int32.ofNat r < Int32.ofNat R := (ni_lt (by omega) (by omega)).mpr (by omega)
      have hst : mc_rows w b bd (to b) (r + 1) = if Int32.ofNat r = to b then mc_rows w b bd (to b) r else mc_row (mc_rows w b bd (to b) r) (16 * b + r) (bd (16 * b + r)) := rfl
      have hsl : mc_rls w b bd (to b) l (r + 1) = if Int32.ofNat r = to b then mc_rls w b bd (to b) l r else mc_rls w b bd (to b) l r + mc_rl (mc_rows w b bd (to b) r) (16 * b + r) (bd (16 * b + r)) := rfl
      by_cases z : Int32.ofNat r = to b
      · rw [if_pos z] at hst hsl
        obtain ⟨d', e1, e2, e3⟩ := ih (r + 1) d (by omega) hL (by rw [hst]; exact hs) h33 h37
        refine ⟨d', fun x h => ?_, e2, e3⟩
        have h := e1 x h
        rw [hsl] at h
        refine EV_bk (k := 400) ?_
        rw [bk_84_18, hl 32 0 0 rfl (by decide) (by decide), cond_true, hL.2.1, hR, if_pos hlt]
        simp only [hl 32 0 5 rfl (by decide) (by decide), cond_true, ni_in (n := b) (N := 4) (by omega) (by omega), ni_c (n := b) (by omega), h37]
        rw [if_pos z, ni_1]
        exact h
      · rw [if_neg z] at hst hsl
        obtain ⟨d1, y1, y2, y3⟩ := ec_grow1 (n := n) (o := o) (bd := bd (16 * b + r)) hl hi hs (c := 16 * b + r) (by omega)
        obtain ⟨d', e1, e2, e3⟩ := ih (r + 1) d1 (by omega) (FT_CL (FR_FT y2) hL) (by rw [hst]; exact y3) (fun r hr => by rw [y2 33 0 (.inl (by decide))]; exact h33 r hr) (by rw [y2 37 0 (.inl (by decide))]; exact h37)
        refine ⟨d', fun x h => ?_, FR_t y2 e2, e3⟩
        have h := e1 x h
        rw [hsl] at h
        refine EV_bk (k := 400) ?_
        rw [bk_84_18, hl 32 0 0 rfl (by decide) (by decide), cond_true, hL.2.1, hR, if_pos hlt]
        simp only [hl 32 0 5 rfl (by decide) (by decide), cond_true, ni_in (n := b) (N := 4) (by omega) (by omega), ni_c (n := b) (by omega), h37]
        rw [if_neg z, ec_cellOf]
        simp only [ev_bi, hl 0 i 7 rfl hi (by decide), hl 32 0 1 rfl (by decide) (by decide), cond_true, ni_in (n := 16 * b + r) (N := 64) (by omega) (by omega), ni_c (n := 16 * b + r) (by omega), h33 r (by omega)]
        rw [y1]
        simp only [ev_bi, ni_1]
        exact h
  exact loop R 0 d (by omega) hL hs h33 h37
theorem ec_growRows (hl : LK lk) {i : Nat} (hi : i < 15) {t w : Nat → Int32} {C K B R : Nat} {bd to : Nat → Int32} (hs : CS d i w C K) (hL : CL d 1 t) (hB : t 0 = Int32.ofNat B) (h4 : B ≤ 4) (hR : t 1 = Int32.ofNat R) (h16 : R ≤ 16)
    (h33 : ∀ b, b < B → ∀ r, r < R → d 33 0 (16 * b + r) = bd (16 * b + r)) (h37 : ∀ b, b < B → d 37 0 b = to b) :
    ∃ d', EV (84, 0, [ev_R 32 0, ev_R 0 i], [], 0, 0) (n, lk, d, o) = some (.inl (some (ev_I (mc_gl w bd to R B))), (n, lk, d', o)) ∧ FR d d' i ∧ CS d' i (ev_u1 (mc_gw w bd to R B) 14 (mc_gw w bd to R B 14 + mc_gl w bd to R B)) C K := by
  have loop : ∀ j b (d : Nat → Nat → Nat → Int32), b + j = B → CL d 1 t → CS d i (mc_gw w bd to R b) C K → (∀ b, b < B → ∀ r, r < R → d 33 0 (16 * b + r) = bd (16 * b + r)) → (∀ b, b < B → d 37 0 b = to b) →
      ∃ d', EV (84, 4, [ev_R 32 0, ev_R 0 i, ev_I (mc_gl w bd to R b), ev_I (Int32.ofNat b)], [], 0, 0) (n, lk, d, o) = some (.inl (some (ev_I (mc_gl w bd to R B))), (n, lk, d', o)) ∧ FR d d' i ∧ CS d' i (ev_u1 (mc_gw w bd to R B) 14 (mc_gw w bd to R B 14 + mc_gl w bd to R B)) C K := by
    intro j
    induction j with
    | zero =>
      intro b d hb hL hs h33 h37
      have e : b = B := by omega
      subst e
      have c1 := CS_sum (k := 3) (v := mc_gw w bd to R b 14 + mc_gl w bd to R b) hs (by decide)
      have g2 : d 2 i 3 = mc_gw w bd to R b 14 := cs_2 hs (k := 3) (by decide)
      refine ⟨_, ?_, FR_u3 (by decide), c1⟩
      refine EV_bk (k := 400) ?_
      rw [bk_84_4, hl 32 0 0 rfl (by decide) (by decide), cond_true, hL.1, hB, if_neg (fun z => by have := (ni_lt (by omega) (by omega)).mp z; omega)]
      simp only [hl 0 i 5 rfl hi (by decide), cond_true, g2]
    | succ j ih =>
      intro b d hb hL hs h33 h37
      have hlt : Int32.ofNat b < Int32.ofNat B := (ni_lt (by omega) (by omega)).mpr (by omega)
      obtain ⟨d1, y1, y2, y3⟩ := ec_growBank (n := n) (o := o) (l := mc_gl w bd to R b) (to := to) hl hi hs hL hR h16 (b := b) (by omega) (h33 b (by omega)) (h37 b (by omega))
      obtain ⟨d', e1, e2, e3⟩ := ih (b + 1) d1 (by omega) (FT_CL (FR_FT y2) hL) y3 (fun b hb r hr => by rw [y2 33 0 (.inl (by decide))]; exact h33 b hb r hr) (fun b hb => by rw [y2 37 0 (.inl (by decide))]; exact h37 b hb)
      refine ⟨d', ?_, FR_t y2 e2, e3⟩
      refine EV_bk (k := 400) ?_
      rw [bk_84_4, hl 32 0 0 rfl (by decide) (by decide), cond_true, hL.1, hB, if_pos hlt]
      exact y1 _ e1
  obtain ⟨d', e1, e2, e3⟩ := loop B 0 d (by omega) hL hs h33 h37
  refine ⟨d', ?_, e2, e3⟩
  refine EV_bk (k := 400) ?_
  rw [bk_84_0]
  exact e1
end EC15
