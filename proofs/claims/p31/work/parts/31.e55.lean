/-! THE PROGRAM AGAINST THE REFERENCE, 41: what can be undone is kept -/
section EM30
variable {n : Nat} {lk : Nat → Nat → Nat → Bool} {d : Nat → Nat → Nat → Int32} {o : ev_W}
theorem em_cp_58_58 {a b : Nat} (ha : a + 615 ≤ 6150) (hb : b + 615 ≤ a) : EV (218, 0, [ev_R 58 0, ev_I (Int32.ofNat a), ev_R 58 0, ev_I (Int32.ofNat b)], [], 0, 0) (n, lk, d, o) = some (.inl none, (n, lk, ev_w3 d 58 0 (ms_cp (d 58 0) (d 58 0) a b 615), o)) := by
  have loop : ∀ j k, k + j = 615 → EV (218, 3, [ev_R 58 0, ev_I (Int32.ofNat a), ev_R 58 0, ev_I (Int32.ofNat b), ev_I (Int32.ofNat k)], [], 0, 0) (n, lk, ev_w3 d 58 0 (ms_cp (d 58 0) (d 58 0) a b k), o) = some (.inl none, (n, lk, ev_w3 d 58 0 (ms_cp (d 58 0) (d 58 0) a b 615), o)) := by
    intro j
    induction j with
    | zero =>
      intro k hk
      refine EV_bk (k := 400) ?_
      have hk : k = 615 := by omega
      subst hk
      rw [bk_218_3_58_58, if_neg (fun z => by have := (ni_lt (b := 615) (by omega) (by omega)).mp z; omega)]
    | succ j ih =>
      intro k hk
      have e := ih (k + 1) (by omega)
      refine EV_bk (k := 400) ?_
      have hlt : Int32.ofNat k < (615 : Int32) := (ni_lt (b := 615) (by omega) (by omega)).mpr (by omega)
      have rd : ms_cp (d 58 0) (d 58 0) a b k (a + k) = d 58 0 (a + k) := by
        unfold ms_cp
        rw [if_neg (by omega)]
      rw [bk_218_3_58_58, if_pos hlt]
      simp only [ni_a, ni_1, ni_in (n := a + k) (N := 6150) (by omega) (by omega), ni_c (n := a + k) (by omega), ni_in (n := b + k) (N := 6150) (by omega) (by omega), ni_c (n := b + k) (by omega), cond_true, u3w, w3s, w3w]
      rw [rd, ms_cpS]
      exact e
  refine EV_bk (k := 400) ?_
  rw [bk_218_0_58_58]
  have e := loop 615 0 (by omega)
  rw [ms_cp0, w3e] at e
  exact e
theorem ni_615 (k : Nat) : (615 : Int32) * Int32.ofNat k = Int32.ofNat (615 * k) := by rw [Int32.ofNat_mul]; rfl
/-- what keeps does -/
def KP (d d' : Nat → Nat → Nat → Int32) (c : Nat) : Prop := (∀ r, r ≠ 44 → r ≠ 58 → d' r = d r) ∧ (∀ k, k ≠ 25 → d' 44 0 k = d 44 0 k) ∧ d' 44 0 25 = Int32.ofNat (if c < 10 then c + 1 else 10) ∧
  (c < 10 → ∀ k j, k ≤ c → j < 615 → d' 58 0 (615 * k + j) = if k < c then d 58 0 (615 * k + j) else d 46 0 j) ∧ (c = 10 → ∀ k j, k < 10 → j < 615 → d' 58 0 (615 * k + j) = if k < 9 then d 58 0 (615 * (k + 1) + j) else d 46 0 j)
theorem em_keeps (hl : LK lk) {c : Nat} (hc : d 44 0 25 = Int32.ofNat c) (h10 : c ≤ 10) : ∃ d', EV (219, 0, [ev_R 44 0], [], 0, 0) (n, lk, d, o) = some (.inl none, (n, lk, d', o)) ∧ KP d d' c := by
  by_cases z : c = 10
  · subst z
    have e9 : d 44 0 25 - 1 = Int32.ofNat 9 := by rw [hc]; decide
    -- the shift
    have shift : ∀ j k (u : Nat → Int32), k + j = 9 → (∀ k' j, k' < k → j < 615 → u (615 * k' + j) = d 58 0 (615 * (k' + 1) + j)) → (∀ x, 615 * k ≤ x → u x = d 58 0 x) →
        ∃ u', EV (219, 21, [ev_R 44 0, ev_I (Int32.ofNat k)], [], 0, 0) (n, lk, ev_w3 (ev_u3 d 44 0 25 (Int32.ofNat 9)) 58 0 u, o) = some (.inl none, (n, lk, ev_u3 (ev_w3 (ev_u3 d 44 0 25 (Int32.ofNat 9)) 58 0 u') 44 0 25 (Int32.ofNat 10), o)) ∧
          ∀ k j, k < 10 → j < 615 → u' (615 * k + j) = if k < 9 then d 58 0 (615 * (k + 1) + j) else d 46 0 j := by
      intro j
      induction j with
      | zero =>
        intro k u hk h1 h2
        have hk : k = 9 := by omega
        subst hk
        refine ⟨ms_cp (d 46 0) u 0 (615 * 9) 615, ?_, fun k j hk hj => ?_⟩
        · have c9 : ev_w3 (ev_u3 d 44 0 25 (Int32.ofNat 9)) 58 0 u 44 0 25 = Int32.ofNat 9 := by rw [w3n (by decide), u3s]
          have cp := em_cp_46_58 (n := n) (lk := lk) (o := o) (d := ev_w3 (ev_u3 d 44 0 25 (Int32.ofNat 9)) 58 0 u) (a := 0) (b := 615 * 9) (by omega) (by omega)
          have cp' : EV (218, 0, [ev_R 46 0, ev_I 0, ev_R 58 0, ev_I (Int32.ofNat (615 * 9))], [], 0, 0) (n, lk, ev_w3 (ev_u3 d 44 0 25 (Int32.ofNat 9)) 58 0 u, o) = _ := cp
          refine EV_bk (k := 400) ?_
          rw [bk_219_21, c9, if_neg (Int32.lt_irrefl), hl 44 0 2 rfl (by decide) (by decide), cond_true, hl 44 0 26 rfl (by decide) (by decide), cond_true, ni_615, cp']
          simp only [ev_bv, w3s, w3w]
          rw [w3n (r' := 46) (by decide), u3n (r' := 46) (by decide), w3n (r' := 44) (by decide), u3s]
          rfl
        · unfold ms_cp
          by_cases y : k < 9
          · rw [if_neg (by omega), if_pos y, h1 k j y hj]
          · rw [if_pos (by omega), if_neg y, show 0 + (615 * k + j - 615 * 9) = j by omega]
      | succ j ih =>
        intro k u hk h1 h2
        have c9 : ev_w3 (ev_u3 d 44 0 25 (Int32.ofNat 9)) 58 0 u 44 0 25 = Int32.ofNat 9 := by rw [w3n (by decide), u3s]
        have hlt : Int32.ofNat k < Int32.ofNat 9 := (ni_lt (by omega) (by omega)).mpr (by omega)
        obtain ⟨u', e, hu⟩ := ih (k + 1) (ms_cp u u (615 * (k + 1)) (615 * k) 615) (by omega) (fun k' j hk' hj => by
          unfold ms_cp
          by_cases y : k' = k
          · subst y
            rw [if_pos (by omega), show 615 * (k' + 1) + (615 * k' + j - 615 * k') = 615 * (k' + 1) + j by omega]
            exact h2 _ (by omega)
          · rw [if_neg (by omega)]
            exact h1 k' j (by omega) hj) (fun x hx => by
          unfold ms_cp
          rw [if_neg (by omega)]
          exact h2 x (by omega))
        refine ⟨u', ?_, hu⟩
        have cp := em_cp_58_58 (n := n) (lk := lk) (o := o) (d := ev_w3 (ev_u3 d 44 0 25 (Int32.ofNat 9)) 58 0 u) (a := 615 * (k + 1)) (b := 615 * k) (by omega) (by omega)
        refine EV_bk (k := 400) ?_
        rw [bk_219_21, c9, if_pos hlt, hl 44 0 26 rfl (by decide) (by decide), cond_true, cond_true, ni_1, ni_615, ni_615, cp]
        simp only [ev_bv, w3s, w3w]
        exact e
    obtain ⟨u', e, hu⟩ := shift 9 0 (d 58 0) (by omega) (fun k' j h => absurd h (Nat.not_lt_zero _)) (fun x _ => rfl)
    have w0 : ev_w3 (ev_u3 d 44 0 25 (Int32.ofNat 9)) 58 0 (d 58 0) = ev_u3 d 44 0 25 (Int32.ofNat 9) := by
      have := w3e (ev_u3 d 44 0 25 (Int32.ofNat 9)) 58 0
      rwa [u3n (r' := 58) (by decide)] at this
    rw [w0] at e
    refine ⟨ev_u3 (ev_w3 (ev_u3 d 44 0 25 (Int32.ofNat 9)) 58 0 u') 44 0 25 (Int32.ofNat 10), ?_, fun r h1 h2 => ?_, fun k hk => ?_, ?_, fun h => by omega, fun _ k j hk hj => ?_⟩
    · refine EV_bk (k := 400) ?_
      rw [bk_219_0, if_pos (show d 44 0 25 = 10 from hc), e9]
      exact e
    · rw [u3n h1, w3n h2, u3n h1]
    · rw [u3x hk, w3n (by decide), u3x hk]
    · rw [u3s]
      rfl
    · rw [u3n (by decide), w3s]
      exact hu k j hk hj
  · have hne : ¬ d 44 0 25 = 10 := fun v => z (by
      rw [hc] at v
      exact (ni_eq (b := 10) (by omega) (by omega)).mp v)
    have cp := em_cp_46_58 (n := n) (lk := lk) (o := o) (d := d) (a := 0) (b := 615 * c) (by omega) (by omega)
    have cp' : EV (218, 0, [ev_R 46 0, ev_I 0, ev_R 58 0, ev_I (Int32.ofNat (615 * c))], [], 0, 0) (n, lk, d, o) = _ := cp
    refine ⟨ev_u3 (ev_w3 d 58 0 (ms_cp (d 46 0) (d 58 0) 0 (615 * c) 615)) 44 0 25 (Int32.ofNat (c + 1)), ?_, fun r h1 h2 => ?_, fun k hk => ?_, ?_, fun _ k j hk hj => ?_, fun h => absurd h z⟩
    · refine EV_bk (k := 400) ?_
      rw [bk_219_0, if_neg hne, hl 44 0 2 rfl (by decide) (by decide), cond_true, hl 44 0 26 rfl (by decide) (by decide), cond_true, hc, ni_615, cp']
      simp only [ev_bv]
      rw [w3n (r' := 44) (by decide), hc, ni_1]
    · rw [u3n h1, w3n h2]
    · rw [u3x hk, w3n (by decide)]
    · rw [u3s, if_pos (by omega)]
    · rw [u3n (by decide), w3s]
      unfold ms_cp
      by_cases y : k < c
      · rw [if_neg (by omega), if_pos y]
      · rw [if_pos (by omega), if_neg y, show 0 + (615 * k + j - 615 * c) = j by omega]
theorem ec_remember (hl : LK lk) {e c : Nat} (he : d 39 0 1 = Int32.ofNat e) (he10 : e < 10) (hc : d 39 0 2 = Int32.ofNat c) (hc10 : c ≤ 10) (htr : d 0 1 1 = 0 ∨ d 0 1 1 = 1) :
    ∃ d', EV (15, 0, [ev_R 39 0, ev_R 0 1], [], 0, 0) (n, lk, d, o) = some (.inl none, (n, lk, d', o)) ∧ (∀ r, r < 24 → ∀ x, x ≠ e + 3 → d' r x = d r x) ∧ (∀ r, 24 ≤ r → r ≠ 39 → d' r = d r) ∧ (∀ i B R C T τ w, GS d 1 w B R C T τ → i = e + 3 → GS d' i w B R C T τ) ∧
      d' 39 0 1 = Int32.ofNat (if e < 9 then e + 1 else 0) ∧ d' 39 0 2 = Int32.ofNat (if c < 10 then c + 1 else 10) := by
  obtain ⟨d1, e1, c1⟩ := ec_cpState (n := n) (o := o) (d := d) hl (i := e + 3) (j := 1) (by omega) (by decide) htr
  have L40 : lk 40 0 e = true := hl 40 0 e rfl (by decide) (by
    have : sd_n 40 = 10 := rfl
    omega)
  have f39 : d1 39 = d 39 := funext fun x => c1.1 39 x (by omega)
  have go : ∀ v1 v2, (∀ r, r < 24 → ∀ x, x ≠ e + 3 → ev_u3 (ev_u3 d1 39 0 1 v1) 39 0 2 v2 r x = d r x) ∧ (∀ r, 24 ≤ r → r ≠ 39 → ev_u3 (ev_u3 d1 39 0 1 v1) 39 0 2 v2 r = d r) ∧ (∀ i B R C T τ w, GS d 1 w B R C T τ → i = e + 3 → GS (ev_u3 (ev_u3 d1 39 0 1 v1) 39 0 2 v2) i w B R C T τ) ∧
      ev_u3 (ev_u3 d1 39 0 1 v1) 39 0 2 v2 39 0 1 = v1 ∧ ev_u3 (ev_u3 d1 39 0 1 v1) 39 0 2 v2 39 0 2 = v2 := fun v1 v2 =>
    ⟨fun r hr x hx => by rw [u3n (by omega), u3n (by omega)]; exact c1.1 r x (by omega), fun r h1 h2 => by rw [u3n h2, u3n h2]; exact funext fun x => c1.1 r x (by omega),
      fun i B R C T τ w g hi => by subst hi; exact GS_d (GS_cp c1 g) (fun r hr => by rw [u3n (by omega), u3n (by omega)]), by rw [u3x (by decide), u3s], u3s⟩
  have cn : (if (10 : Int32) < Int32.ofNat c + 1 then (10 : Int32) else Int32.ofNat c + 1) = Int32.ofNat (if c < 10 then c + 1 else 10) := by
    rw [ni_1]
    by_cases y : c < 10
    · rw [if_pos y, if_neg (fun v => by have := (ni_lt (a := 10) (by omega) (by omega)).mp v; omega)]
    · rw [if_neg y, if_pos (show (10 : Int32) < Int32.ofNat (c + 1) from (ni_lt (a := 10) (by omega) (by omega)).mpr (by omega))]
      rfl
  by_cases z : e < 9
  · obtain ⟨g1, g2, g3, g4, g5⟩ := go (Int32.ofNat (e + 1)) (Int32.ofNat (if c < 10 then c + 1 else 10))
    refine ⟨_, ?_, g1, g2, g3, by rw [g4, if_pos z], g5⟩
    refine EV_bk (k := 400) ?_
    rw [bk_15_0]
    simp only [hl 39 0 0 rfl (by decide) (by decide), he, ni_in (n := e) (N := 10) (by omega) (by omega), ni_c (n := e) (by omega), L40, cond_true]
    rw [e1]
    simp only [ev_bv, f39, he]
    rw [ni_1, if_pos (show Int32.ofNat (e + 1) < 10 from (ni_lt (b := 10) (by omega) (by omega)).mpr (by omega)), u3x (by decide), f39, hc, cn]
  · obtain ⟨g1, g2, g3, g4, g5⟩ := go 0 (Int32.ofNat (if c < 10 then c + 1 else 10))
    refine ⟨_, ?_, g1, g2, g3, by rw [g4, if_neg z]; rfl, g5⟩
    refine EV_bk (k := 400) ?_
    rw [bk_15_0]
    simp only [hl 39 0 0 rfl (by decide) (by decide), he, ni_in (n := e) (N := 10) (by omega) (by omega), ni_c (n := e) (by omega), L40, cond_true]
    rw [e1]
    simp only [ev_bv, f39, he]
    rw [ni_1, if_neg (show ¬ Int32.ofNat (e + 1) < 10 from fun v => by have := (ni_lt (b := 10) (by omega) (by omega)).mp v; omega), u3x (by decide), f39, hc, cn]
end EM30
