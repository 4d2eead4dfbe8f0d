/-! THE PROGRAM AGAINST THE REFERENCE, 27: states are copied -/
def mc_sz (r : Nat) : Nat := if r = 0 then 4 else if r = 1 then 7 else if r = 2 then 6 else if r = 3 then 0 else if r ≤ 10 then 4 else if r = 11 then 0 else if r ≤ 16 then 64 else if r = 17 then 2 else 40
/-- roles lo to hi of state i are those of state j, nothing else has changed -/
def CPS (d d' : Nat → Nat → Nat → Int32) (i j lo hi : Nat) : Prop := (∀ r x, r < lo ∨ hi < r ∨ x ≠ i → d' r x = d r x) ∧ ∀ r, lo ≤ r → r ≤ hi → ∀ k, k < mc_sz r → d' r i k = d r j k
theorem CPS_t {d d' d'' : Nat → Nat → Nat → Int32} {i j lo m m' hi : Nat} (h : CPS d d' i j lo m) (h' : CPS d' d'' i j m' hi) (hm : m' = m + 1) (h1 : lo ≤ m) (h2 : m ≤ hi) : CPS d d'' i j lo hi := by
  subst hm
  refine ⟨fun r x z => ?_, fun r r1 r2 k hk => ?_⟩
  · rw [h'.1 r x (by omega), h.1 r x (by omega)]
  · by_cases e : r ≤ m
    · rw [h'.1 r i (by omega), h.2 r r1 e k hk]
    · rw [h'.2 r (by omega) r2 k hk, h.1 r j (by omega)]
theorem CPS_0 {d : Nat → Nat → Nat → Int32} {i j r : Nat} (h : mc_sz r = 0) : CPS d d i j r r := ⟨fun _ _ _ => rfl, fun r' h1 h2 k hk => by
  have : r' = r := by omega
  subst this
  omega⟩
theorem CPS_1 {d : Nat → Nat → Nat → Int32} {i j : Nat} (r L : Nat) (h : mc_sz r = L) : CPS d (ev_w3 d r i (va_cpy (d r j) (d r i) 0 0 L)) i j r r := by
  refine ⟨fun r' x z => ?_, fun r' h1 h2 k hk => ?_⟩
  · by_cases e : r' = r
    · subst e
      exact w3j (by omega)
    · rw [w3n e]
  · have : r' = r := by omega
    subst this
    rw [w3s]
    unfold va_cpy
    rw [if_pos (by omega), show 0 + (k - 0) = k by omega]
theorem u3y {d : Nat → Nat → Nat → Int32} {r i j k k' : Nat} {v : Int32} (h : k' ≠ k) : ev_u3 d r i k v r j k' = d r j k' := by
  by_cases e : j = i
  · subst e
    exact u3x h
  · rw [u3w, w3j e]
theorem CPS_17 {d : Nat → Nat → Nat → Int32} {i j : Nat} : CPS d (ev_u3 (ev_u3 d 17 i 0 (d 17 j 0)) 17 i 1 (d 17 j 1)) i j 17 17 := by
  refine ⟨fun r x z => ?_, fun r h1 h2 k hk => ?_⟩
  · by_cases e : r = 17
    · subst e
      have hx : x ≠ i := by omega
      simp only [u3w]
      rw [w3j hx, w3j hx]
    · rw [u3n e, u3n e]
  · have : r = 17 := by omega
    subst this
    match k, hk with
    | 0, _ => rw [u3x (by decide), u3s]
    | 1, _ => rw [u3s]
theorem CPS_00 {d : Nat → Nat → Nat → Int32} {i j : Nat} : CPS d (ev_u3 (ev_u3 (ev_u3 (ev_u3 d 0 i 0 (d 0 j 0)) 0 i 1 (d 0 j 1)) 0 i 2 (d 0 j 2)) 0 i 3 (d 0 j 3)) i j 0 0 := by
  refine ⟨fun r x z => ?_, fun r h1 h2 k hk => ?_⟩
  · by_cases e : r = 0
    · subst e
      have hx : x ≠ i := by omega
      simp only [u3w]
      rw [w3j hx, w3j hx, w3j hx, w3j hx]
    · rw [u3n e, u3n e, u3n e, u3n e]
  · have : r = 0 := by omega
    subst this
    match k, hk with
    | 0, _ => rw [u3x (by decide), u3x (by decide), u3x (by decide), u3s]
    | 1, _ => rw [u3x (by decide), u3x (by decide), u3s]
    | 2, _ => rw [u3x (by decide), u3s]
    | 3, _ => rw [u3s]
/-- a state that was copied lies alike -/
theorem CS_cp {d d' : Nat → Nat → Nat → Int32} {i j C K : Nat} {w : Nat → Int32} (h : CPS d d' i j 0 23) (hs : CS d j w C K) : CS d' i w C K := by
  have c := fun r k (hr : r ≤ 23) hk => h.2 r (Nat.zero_le r) hr k hk
  have hKC : K ≤ C := by
    have := ms_cm_le w C
    rw [← cs_K hs] at this
    exact this
  have h40 := cs_C hs
  have hs0 := hs
  obtain ⟨s1, s2, s3, s4, s5, s6, s7, s8, s9, s10, s11, s12, hi1, hi2⟩ := hs
  refine ⟨fun k hk => ?_, ?_, ?_, ?_, ?_, ?_, ?_, fun k hk => ?_, fun b hb => ?_, fun x hx => ?_, fun q hq => ?_, s12, fun q hq hne => ?_, fun p hp => ?_⟩
  · rw [c 1 k (by decide) hk, s1 k hk]
  · rw [c 0 1 (by decide) (by decide), s2]
  · rw [c 0 0 (by decide) (by decide), s3]
  · rw [c 0 2 (by decide) (by decide), s4]
  · rw [c 0 3 (by decide) (by decide), s5]
  · rw [c 17 0 (by decide) (by decide), s6]
  · rw [c 17 1 (by decide) (by decide), s7]
  · rw [c 2 k (by decide) hk, s8 k hk]
  · rw [c 4 b (by decide) hb, c 5 b (by decide) hb, c 6 b (by decide) hb, c 7 b (by decide) hb, c 8 b (by decide) hb, c 9 b (by decide) hb, c 10 b (by decide) hb]
    exact s9 b hb
  · rw [c 12 x (by decide) hx, c 13 x (by decide) hx, c 14 x (by decide) hx, c 15 x (by decide) hx, c 16 x (by decide) hx]
    exact s10 x hx
  · have hq' : q < 40 := by omega
    rw [c 18 q (by decide) hq', c 19 q (by decide) hq', c 20 q (by decide) hq', c 21 q (by decide) hq', c 22 q (by decide) hq']
    exact s11 q hq
  · obtain ⟨p, hp, y1, y2⟩ := hi1 q hq hne
    have hp' : p < 40 := by omega
    exact ⟨p, hp, y1, by rw [c 23 p (by decide) hp', y2]⟩
  · obtain ⟨q, hq, y0, y1, y2⟩ := hi2 p hp
    have hp' : p < 40 := by omega
    exact ⟨q, hq, y0, y1, by rw [c 23 p (by decide) hp', y2]⟩
section EC17
variable {n : Nat} {lk : Nat → Nat → Nat → Bool} {d : Nat → Nat → Nat → Int32} {o : ev_W}
theorem ec_cp_1 {i j : Nat} : EV (126, 0, [ev_R 1 j, ev_R 1 i], [], 0, 0) (n, lk, d, o) = some (.inl none, (n, lk, ev_w3 d 1 i (va_cpy (d 1 j) (d 1 i) 0 0 7), o)) := by
  refine EV_bk (k := 400) ?_
  rw [bk_126_0_1_1]
  rfl
theorem ec_cp_2 {i j : Nat} : EV (126, 0, [ev_R 2 j, ev_R 2 i], [], 0, 0) (n, lk, d, o) = some (.inl none, (n, lk, ev_w3 d 2 i (va_cpy (d 2 j) (d 2 i) 0 0 6), o)) := by
  refine EV_bk (k := 400) ?_
  rw [bk_126_0_2_2]
  rfl
theorem ec_cp_4 {i j : Nat} : EV (126, 0, [ev_R 4 j, ev_R 4 i], [], 0, 0) (n, lk, d, o) = some (.inl none, (n, lk, ev_w3 d 4 i (va_cpy (d 4 j) (d 4 i) 0 0 4), o)) := by
  refine EV_bk (k := 400) ?_
  rw [bk_126_0_4_4]
  rfl
theorem ec_cp_5 {i j : Nat} : EV (126, 0, [ev_R 5 j, ev_R 5 i], [], 0, 0) (n, lk, d, o) = some (.inl none, (n, lk, ev_w3 d 5 i (va_cpy (d 5 j) (d 5 i) 0 0 4), o)) := by
  refine EV_bk (k := 400) ?_
  rw [bk_126_0_5_5]
  rfl
theorem ec_cp_6 {i j : Nat} : EV (126, 0, [ev_R 6 j, ev_R 6 i], [], 0, 0) (n, lk, d, o) = some (.inl none, (n, lk, ev_w3 d 6 i (va_cpy (d 6 j) (d 6 i) 0 0 4), o)) := by
  refine EV_bk (k := 400) ?_
  rw [bk_126_0_6_6]
  rfl
theorem ec_cp_7 {i j : Nat} : EV (126, 0, [ev_R 7 j, ev_R 7 i], [], 0, 0) (n, lk, d, o) = some (.inl none, (n, lk, ev_w3 d 7 i (va_cpy (d 7 j) (d 7 i) 0 0 4), o)) := by
  refine EV_bk (k := 400) ?_
  rw [bk_126_0_7_7]
  rfl
theorem ec_cp_8 {i j : Nat} : EV (126, 0, [ev_R 8 j, ev_R 8 i], [], 0, 0) (n, lk, d, o) = some (.inl none, (n, lk, ev_w3 d 8 i (va_cpy (d 8 j) (d 8 i) 0 0 4), o)) := by
  refine EV_bk (k := 400) ?_
  rw [bk_126_0_8_8]
  rfl
theorem ec_cp_9 {i j : Nat} : EV (126, 0, [ev_R 9 j, ev_R 9 i], [], 0, 0) (n, lk, d, o) = some (.inl none, (n, lk, ev_w3 d 9 i (va_cpy (d 9 j) (d 9 i) 0 0 4), o)) := by
  refine EV_bk (k := 400) ?_
  rw [bk_126_0_9_9]
  rfl
theorem ec_cp_10 {i j : Nat} : EV (126, 0, [ev_R 10 j, ev_R 10 i], [], 0, 0) (n, lk, d, o) = some (.inl none, (n, lk, ev_w3 d 10 i (va_cpy (d 10 j) (d 10 i) 0 0 4), o)) := by
  refine EV_bk (k := 400) ?_
  rw [bk_126_0_10_10]
  rfl
theorem ec_cp_12 {i j : Nat} : EV (126, 0, [ev_R 12 j, ev_R 12 i], [], 0, 0) (n, lk, d, o) = some (.inl none, (n, lk, ev_w3 d 12 i (va_cpy (d 12 j) (d 12 i) 0 0 64), o)) := by
  refine EV_bk (k := 400) ?_
  rw [bk_126_0_12_12]
  rfl
theorem ec_cp_13 {i j : Nat} : EV (126, 0, [ev_R 13 j, ev_R 13 i], [], 0, 0) (n, lk, d, o) = some (.inl none, (n, lk, ev_w3 d 13 i (va_cpy (d 13 j) (d 13 i) 0 0 64), o)) := by
  refine EV_bk (k := 400) ?_
  rw [bk_126_0_13_13]
  rfl
theorem ec_cp_14 {i j : Nat} : EV (126, 0, [ev_R 14 j, ev_R 14 i], [], 0, 0) (n, lk, d, o) = some (.inl none, (n, lk, ev_w3 d 14 i (va_cpy (d 14 j) (d 14 i) 0 0 64), o)) := by
  refine EV_bk (k := 400) ?_
  rw [bk_126_0_14_14]
  rfl
theorem ec_cp_15 {i j : Nat} : EV (126, 0, [ev_R 15 j, ev_R 15 i], [], 0, 0) (n, lk, d, o) = some (.inl none, (n, lk, ev_w3 d 15 i (va_cpy (d 15 j) (d 15 i) 0 0 64), o)) := by
  refine EV_bk (k := 400) ?_
  rw [bk_126_0_15_15]
  rfl
theorem ec_cp_16 {i j : Nat} : EV (126, 0, [ev_R 16 j, ev_R 16 i], [], 0, 0) (n, lk, d, o) = some (.inl none, (n, lk, ev_w3 d 16 i (va_cpy (d 16 j) (d 16 i) 0 0 64), o)) := by
  refine EV_bk (k := 400) ?_
  rw [bk_126_0_16_16]
  rfl
theorem ec_cp_18 {i j : Nat} : EV (126, 0, [ev_R 18 j, ev_R 18 i], [], 0, 0) (n, lk, d, o) = some (.inl none, (n, lk, ev_w3 d 18 i (va_cpy (d 18 j) (d 18 i) 0 0 40), o)) := by
  refine EV_bk (k := 400) ?_
  rw [bk_126_0_18_18]
  rfl
theorem ec_cp_19 {i j : Nat} : EV (126, 0, [ev_R 19 j, ev_R 19 i], [], 0, 0) (n, lk, d, o) = some (.inl none, (n, lk, ev_w3 d 19 i (va_cpy (d 19 j) (d 19 i) 0 0 40), o)) := by
  refine EV_bk (k := 400) ?_
  rw [bk_126_0_19_19]
  rfl
theorem ec_cp_20 {i j : Nat} : EV (126, 0, [ev_R 20 j, ev_R 20 i], [], 0, 0) (n, lk, d, o) = some (.inl none, (n, lk, ev_w3 d 20 i (va_cpy (d 20 j) (d 20 i) 0 0 40), o)) := by
  refine EV_bk (k := 400) ?_
  rw [bk_126_0_20_20]
  rfl
theorem ec_cp_21 {i j : Nat} : EV (126, 0, [ev_R 21 j, ev_R 21 i], [], 0, 0) (n, lk, d, o) = some (.inl none, (n, lk, ev_w3 d 21 i (va_cpy (d 21 j) (d 21 i) 0 0 40), o)) := by
  refine EV_bk (k := 400) ?_
  rw [bk_126_0_21_21]
  rfl
theorem ec_cp_22 {i j : Nat} : EV (126, 0, [ev_R 22 j, ev_R 22 i], [], 0, 0) (n, lk, d, o) = some (.inl none, (n, lk, ev_w3 d 22 i (va_cpy (d 22 j) (d 22 i) 0 0 40), o)) := by
  refine EV_bk (k := 400) ?_
  rw [bk_126_0_22_22]
  rfl
theorem ec_cp_23 {i j : Nat} : EV (126, 0, [ev_R 23 j, ev_R 23 i], [], 0, 0) (n, lk, d, o) = some (.inl none, (n, lk, ev_w3 d 23 i (va_cpy (d 23 j) (d 23 i) 0 0 40), o)) := by
  refine EV_bk (k := 400) ?_
  rw [bk_126_0_23_23]
  rfl
theorem ec_cp_25 {i j : Nat} : EV (126, 0, [ev_R 25 j, ev_R 25 i], [], 0, 0) (n, lk, d, o) = some (.inl none, (n, lk, ev_w3 d 25 i (va_cpy (d 25 j) (d 25 i) 0 0 64), o)) := by
  refine EV_bk (k := 400) ?_
  rw [bk_126_0_25_25]
  rfl
theorem ec_cp_26 {i j : Nat} : EV (126, 0, [ev_R 26 j, ev_R 26 i], [], 0, 0) (n, lk, d, o) = some (.inl none, (n, lk, ev_w3 d 26 i (va_cpy (d 26 j) (d 26 i) 0 0 64), o)) := by
  refine EV_bk (k := 400) ?_
  rw [bk_126_0_26_26]
  rfl
theorem ec_cpBanks (hl : LK lk) {i j : Nat} (hi : i < 15) (hj : j < 15) : ∃ d', EV (12, 0, [ev_R 3 i, ev_R 3 j], [], 0, 0) (n, lk, d, o) = some (.inl none, (n, lk, d', o)) ∧ CPS d d' i j 3 10 := by
  refine ⟨_, ?_, CPS_t (CPS_t (CPS_t (CPS_t (CPS_t (CPS_t (CPS_t (CPS_0 (r := 3) rfl) (CPS_1 4 4 rfl) rfl (by decide) (by decide)) (CPS_1 5 4 rfl) rfl (by decide) (by decide)) (CPS_1 6 4 rfl) rfl (by decide) (by decide)) (CPS_1 7 4 rfl) rfl (by decide) (by decide)) (CPS_1 8 4 rfl) rfl (by decide) (by decide)) (CPS_1 9 4 rfl) rfl (by decide) (by decide)) (CPS_1 10 4 rfl) rfl (by decide) (by decide)⟩
  refine EV_bk (k := 400) ?_
  rw [bk_12_0]
  simp only [hl 3 i 0 rfl hi (by decide), hl 3 i 1 rfl hi (by decide), hl 3 i 2 rfl hi (by decide), hl 3 i 3 rfl hi (by decide), hl 3 i 4 rfl hi (by decide), hl 3 i 5 rfl hi (by decide), hl 3 i 6 rfl hi (by decide), hl 3 j 0 rfl hj (by decide), hl 3 j 1 rfl hj (by decide), hl 3 j 2 rfl hj (by decide), hl 3 j 3 rfl hj (by decide), hl 3 j 4 rfl hj (by decide), hl 3 j 5 rfl hj (by decide), hl 3 j 6 rfl hj (by decide), cond_true, ec_cp_4, ec_cp_5, ec_cp_6, ec_cp_7, ec_cp_8, ec_cp_9, ec_cp_10, ev_bv]
theorem ec_cpRows (hl : LK lk) {i j : Nat} (hi : i < 15) (hj : j < 15) : ∃ d', EV (54, 0, [ev_R 11 i, ev_R 11 j], [], 0, 0) (n, lk, d, o) = some (.inl none, (n, lk, d', o)) ∧ CPS d d' i j 11 16 := by
  refine ⟨_, ?_, CPS_t (CPS_t (CPS_t (CPS_t (CPS_t (CPS_0 (r := 11) rfl) (CPS_1 12 64 rfl) rfl (by decide) (by decide)) (CPS_1 13 64 rfl) rfl (by decide) (by decide)) (CPS_1 14 64 rfl) rfl (by decide) (by decide)) (CPS_1 15 64 rfl) rfl (by decide) (by decide)) (CPS_1 16 64 rfl) rfl (by decide) (by decide)⟩
  refine EV_bk (k := 400) ?_
  rw [bk_54_0]
  simp only [hl 11 i 0 rfl hi (by decide), hl 11 i 1 rfl hi (by decide), hl 11 i 2 rfl hi (by decide), hl 11 i 3 rfl hi (by decide), hl 11 i 4 rfl hi (by decide), hl 11 j 0 rfl hj (by decide), hl 11 j 1 rfl hj (by decide), hl 11 j 2 rfl hj (by decide), hl 11 j 3 rfl hj (by decide), hl 11 j 4 rfl hj (by decide), cond_true, ec_cp_12, ec_cp_13, ec_cp_14, ec_cp_15, ec_cp_16, ev_bv]
theorem ec_cpRequests (hl : LK lk) {i j : Nat} (hi : i < 15) (hj : j < 15) : ∃ d', EV (45, 0, [ev_R 17 i, ev_R 17 j], [], 0, 0) (n, lk, d, o) = some (.inl none, (n, lk, d', o)) ∧ CPS d d' i j 17 23 := by
  refine ⟨_, ?_, CPS_t (CPS_t (CPS_t (CPS_t (CPS_t (CPS_t CPS_17 (CPS_1 18 40 rfl) rfl (by decide) (by decide)) (CPS_1 19 40 rfl) rfl (by decide) (by decide)) (CPS_1 20 40 rfl) rfl (by decide) (by decide)) (CPS_1 21 40 rfl) rfl (by decide) (by decide)) (CPS_1 22 40 rfl) rfl (by decide) (by decide)) (CPS_1 23 40 rfl) rfl (by decide) (by decide)⟩
  refine EV_bk (k := 400) ?_
  rw [bk_45_0]
  rw [u3y (d := d) (r := 17) (i := i) (j := j) (k := 0) (k' := 1) (by decide)]
  simp only [hl 17 i 2 rfl hi (by decide), hl 17 i 3 rfl hi (by decide), hl 17 i 4 rfl hi (by decide), hl 17 i 5 rfl hi (by decide), hl 17 i 6 rfl hi (by decide), hl 17 i 7 rfl hi (by decide), hl 17 j 2 rfl hj (by decide), hl 17 j 3 rfl hj (by decide), hl 17 j 4 rfl hj (by decide), hl 17 j 5 rfl hj (by decide), hl 17 j 6 rfl hj (by decide), hl 17 j 7 rfl hj (by decide), cond_true, ec_cp_18, ec_cp_19, ec_cp_20, ec_cp_21, ec_cp_22, ec_cp_23, ev_bv]
theorem ec_cpState (hl : LK lk) {i j : Nat} (hi : i < 15) (hj : j < 15) (h1 : d 0 j 1 = 0 ∨ d 0 j 1 = 1) : ∃ d', EV (63, 0, [ev_R 0 i, ev_R 0 j], [], 0, 0) (n, lk, d, o) = some (.inl none, (n, lk, d', o)) ∧ CPS d d' i j 0 23 := by
  have c0 := CPS_t (CPS_t (CPS_00 (d := d) (i := i) (j := j)) (CPS_1 1 7 rfl) rfl (by decide) (by decide)) (CPS_1 2 6 rfl) rfl (by decide) (by decide)
  obtain ⟨d1, e1, c1⟩ := ec_cpBanks (n := n) (o := o) (d := ev_w3 (ev_w3 (ev_u3 (ev_u3 (ev_u3 (ev_u3 d 0 i 0 (d 0 j 0)) 0 i 1 (d 0 j 1)) 0 i 2 (d 0 j 2)) 0 i 3 (d 0 j 3)) 1 i (va_cpy ((ev_u3 (ev_u3 (ev_u3 (ev_u3 d 0 i 0 (d 0 j 0)) 0 i 1 (d 0 j 1)) 0 i 2 (d 0 j 2)) 0 i 3 (d 0 j 3)) 1 j) ((ev_u3 (ev_u3 (ev_u3 (ev_u3 d 0 i 0 (d 0 j 0)) 0 i 1 (d 0 j 1)) 0 i 2 (d 0 j 2)) 0 i 3 (d 0 j 3)) 1 i) 0 0 7)) 2 i (va_cpy ((ev_w3 (ev_u3 (ev_u3 (ev_u3 (ev_u3 d 0 i 0 (d 0 j 0)) 0 i 1 (d 0 j 1)) 0 i 2 (d 0 j 2)) 0 i 3 (d 0 j 3)) 1 i (va_cpy ((ev_u3 (ev_u3 (ev_u3 (ev_u3 d 0 i 0 (d 0 j 0)) 0 i 1 (d 0 j 1)) 0 i 2 (d 0 j 2)) 0 i 3 (d 0 j 3)) 1 j) ((ev_u3 (ev_u3 (ev_u3 (ev_u3 d 0 i 0 (d 0 j 0)) 0 i 1 (d 0 j 1)) 0 i 2 (d 0 j 2)) 0 i 3 (d 0 j 3)) 1 i) 0 0 7)) 2 j) ((ev_w3 (ev_u3 (ev_u3 (ev_u3 (ev_u3 d 0 i 0 (d 0 j 0)) 0 i 1 (d 0 j 1)) 0 i 2 (d 0 j 2)) 0 i 3 (d 0 j 3)) 1 i (va_cpy ((ev_u3 (ev_u3 (ev_u3 (ev_u3 d 0 i 0 (d 0 j 0)) 0 i 1 (d 0 j 1)) 0 i 2 (d 0 j 2)) 0 i 3 (d 0 j 3)) 1 j) ((ev_u3 (ev_u3 (ev_u3 (ev_u3 d 0 i 0 (d 0 j 0)) 0 i 1 (d 0 j 1)) 0 i 2 (d 0 j 2)) 0 i 3 (d 0 j 3)) 1 i) 0 0 7)) 2 i) 0 0 6)) hl hi hj
  obtain ⟨d2, e2, c2⟩ := ec_cpRows (n := n) (o := o) (d := d1) hl hi hj
  obtain ⟨d3, e3, c3⟩ := ec_cpRequests (n := n) (o := o) (d := d2) hl hi hj
  refine ⟨d3, ?_, CPS_t (CPS_t (CPS_t c0 c1 rfl (by decide) (by decide)) c2 rfl (by decide) (by decide)) c3 rfl (by decide) (by decide)⟩
  have ok : ev_ok 2 (d 0 j 1) = true := by
    rcases h1 with z | z <;> rw [z] <;> rfl
  refine EV_bk (k := 400) ?_
  rw [bk_63_0]
  simp (disch := omega) only [u3y, ok, cond_true, hl 0 i 4 rfl hi (by decide), hl 0 j 4 rfl hj (by decide)]
  simp only [ec_cp_1, ev_bv, hl 0 i 5 rfl hi (by decide), hl 0 j 5 rfl hj (by decide), cond_true, ec_cp_2, hl 0 i 6 rfl hi (by decide), hl 0 j 6 rfl hj (by decide)]
  rw [e1]
  simp only [hl 0 i 7 rfl hi (by decide), hl 0 j 7 rfl hj (by decide), cond_true]
  rw [e2]
  simp only [hl 0 i 8 rfl hi (by decide), hl 0 j 8 rfl hj (by decide), cond_true]
  rw [e3]
end EC17
