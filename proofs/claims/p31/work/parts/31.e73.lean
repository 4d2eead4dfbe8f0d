/-! THE PROGRAM AGAINST THE REFERENCE, 59: arrays are filled, states are reset -/
/-- only instance i of role r has changed -/
def CH (r i : Nat) (d d' : Nat → Nat → Nat → Int32) : Prop := ∀ r' j, r' ≠ r ∨ j ≠ i → d' r' j = d r' j
theorem CH_r {r i : Nat} (d : Nat → Nat → Nat → Int32) : CH r i d d := fun _ _ _ => rfl
theorem CH_t {r i : Nat} {d d' d'' : Nat → Nat → Nat → Int32} (h : CH r i d d') (h' : CH r i d' d'') : CH r i d d'' := fun r' j x => (h' r' j x).trans (h r' j x)
theorem CH_u {r i k : Nat} {d : Nat → Nat → Nat → Int32} {v : Int32} : CH r i d (ev_u3 d r i k v) := by
  intro r' j h
  by_cases e : r' = r
  · subst e
    rw [u3w, w3j (by omega)]
  · rw [u3n e]
section EC46
variable {n : Nat} {lk : Nat → Nat → Nat → Bool} {d : Nat → Nat → Nat → Int32} {o : ev_W}
theorem ec_fill_25 {i : Nat} {x : Int32} : ∃ d', EV (8, 0, [ev_R 25 i, ev_I x], [], 0, 0) (n, lk, d, o) = some (.inl none, (n, lk, d', o)) ∧ CH 25 i d d' ∧ ∀ k, k < 64 → d' 25 i k = x := by
  have loop : ∀ j k, k + j = 64 → ∀ d : Nat → Nat → Nat → Int32, ∃ d', EV (8, 5, [ev_R 25 i, ev_I x, ev_I (Int32.ofNat k), ev_I 64], [], 0, 0) (n, lk, d, o) = some (.inl none, (n, lk, d', o)) ∧ CH 25 i d d' ∧ (∀ c, k ≤ c → c < 64 → d' 25 i c = x) ∧ ∀ c, c < k → d' 25 i c = d 25 i c := by
    intro j
    induction j with
    | zero =>
      intro k hk d
      have hk' : k = 64 := hk
      refine ⟨d, EV_bk (k := 400) ?_, CH_r d, fun c h1 h2 => by omega, fun _ _ => rfl⟩
      rw [bk_8_5_25, if_neg (fun z => by have := (ni_lt (b := 64) (by omega) (by omega)).mp z; omega)]
    | succ j ih =>
      intro k hk d
      obtain ⟨d', e, f, g, h⟩ := ih (k + 1) (by omega) (ev_u3 d 25 i k x)
      refine ⟨d', EV_bk (k := 400) ?_, CH_t CH_u f, fun c h1 h2 => ?_, fun c hc => ?_⟩
      · rw [bk_8_5_25, if_pos (show Int32.ofNat k < 64 from (ni_lt (b := 64) (by omega) (by omega)).mpr (by omega))]
        simp only [ni_in (n := k) (N := 64) (by omega) (by omega), ni_c (n := k) (by omega), cond_true, ni_1]
        exact e
      · by_cases z : c = k
        · subst z
          rw [h c (by omega), u3s]
        · exact g c (by omega) h2
      · rw [h c (by omega), u3x (by omega)]
  obtain ⟨d', e, f, g, -⟩ := loop 64 0 (by omega) d
  refine ⟨d', EV_bk (k := 400) ?_, f, fun k hk => g k (Nat.zero_le _) hk⟩
  rw [bk_8_0_25]
  exact e
theorem ec_fill_26 {i : Nat} {x : Int32} : ∃ d', EV (8, 0, [ev_R 26 i, ev_I x], [], 0, 0) (n, lk, d, o) = some (.inl none, (n, lk, d', o)) ∧ CH 26 i d d' ∧ ∀ k, k < 64 → d' 26 i k = x := by
  have loop : ∀ j k, k + j = 64 → ∀ d : Nat → Nat → Nat → Int32, ∃ d', EV (8, 5, [ev_R 26 i, ev_I x, ev_I (Int32.ofNat k), ev_I 64], [], 0, 0) (n, lk, d, o) = some (.inl none, (n, lk, d', o)) ∧ CH 26 i d d' ∧ (∀ c, k ≤ c → c < 64 → d' 26 i c = x) ∧ ∀ c, c < k → d' 26 i c = d 26 i c := by
    intro j
    induction j with
    | zero =>
      intro k hk d
      have hk' : k = 64 := hk
      refine ⟨d, EV_bk (k := 400) ?_, CH_r d, fun c h1 h2 => by omega, fun _ _ => rfl⟩
      rw [bk_8_5_26, if_neg (fun z => by have := (ni_lt (b := 64) (by omega) (by omega)).mp z; omega)]
    | succ j ih =>
      intro k hk d
      obtain ⟨d', e, f, g, h⟩ := ih (k + 1) (by omega) (ev_u3 d 26 i k x)
      refine ⟨d', EV_bk (k := 400) ?_, CH_t CH_u f, fun c h1 h2 => ?_, fun c hc => ?_⟩
      · rw [bk_8_5_26, if_pos (show Int32.ofNat k < 64 from (ni_lt (b := 64) (by omega) (by omega)).mpr (by omega))]
        simp only [ni_in (n := k) (N := 64) (by omega) (by omega), ni_c (n := k) (by omega), cond_true, ni_1]
        exact e
      · by_cases z : c = k
        · subst z
          rw [h c (by omega), u3s]
        · exact g c (by omega) h2
      · rw [h c (by omega), u3x (by omega)]
  obtain ⟨d', e, f, g, -⟩ := loop 64 0 (by omega) d
  refine ⟨d', EV_bk (k := 400) ?_, f, fun k hk => g k (Nat.zero_le _) hk⟩
  rw [bk_8_0_26]
  exact e
theorem ec_fill_2 {i : Nat} {x : Int32} : ∃ d', EV (8, 0, [ev_R 2 i, ev_I x], [], 0, 0) (n, lk, d, o) = some (.inl none, (n, lk, d', o)) ∧ CH 2 i d d' ∧ ∀ k, k < 6 → d' 2 i k = x := by
  have loop : ∀ j k, k + j = 6 → ∀ d : Nat → Nat → Nat → Int32, ∃ d', EV (8, 5, [ev_R 2 i, ev_I x, ev_I (Int32.ofNat k), ev_I 6], [], 0, 0) (n, lk, d, o) = some (.inl none, (n, lk, d', o)) ∧ CH 2 i d d' ∧ (∀ c, k ≤ c → c < 6 → d' 2 i c = x) ∧ ∀ c, c < k → d' 2 i c = d 2 i c := by
    intro j
    induction j with
    | zero =>
      intro k hk d
      have hk' : k = 6 := hk
      refine ⟨d, EV_bk (k := 400) ?_, CH_r d, fun c h1 h2 => by omega, fun _ _ => rfl⟩
      rw [bk_8_5_2, if_neg (fun z => by have := (ni_lt (b := 6) (by omega) (by omega)).mp z; omega)]
    | succ j ih =>
      intro k hk d
      obtain ⟨d', e, f, g, h⟩ := ih (k + 1) (by omega) (ev_u3 d 2 i k x)
      refine ⟨d', EV_bk (k := 400) ?_, CH_t CH_u f, fun c h1 h2 => ?_, fun c hc => ?_⟩
      · rw [bk_8_5_2, if_pos (show Int32.ofNat k < 6 from (ni_lt (b := 6) (by omega) (by omega)).mpr (by omega))]
        simp only [ni_in (n := k) (N := 6) (by omega) (by omega), ni_c (n := k) (by omega), cond_true, ni_1]
        exact e
      · by_cases z : c = k
        · subst z
          rw [h c (by omega), u3s]
        · exact g c (by omega) h2
      · rw [h c (by omega), u3x (by omega)]
  obtain ⟨d', e, f, g, -⟩ := loop 6 0 (by omega) d
  refine ⟨d', EV_bk (k := 400) ?_, f, fun k hk => g k (Nat.zero_le _) hk⟩
  rw [bk_8_0_2]
  exact e
theorem ec_fill_4 {i : Nat} {x : Int32} : ∃ d', EV (8, 0, [ev_R 4 i, ev_I x], [], 0, 0) (n, lk, d, o) = some (.inl none, (n, lk, d', o)) ∧ CH 4 i d d' ∧ ∀ k, k < 4 → d' 4 i k = x := by
  have loop : ∀ j k, k + j = 4 → ∀ d : Nat → Nat → Nat → Int32, ∃ d', EV (8, 5, [ev_R 4 i, ev_I x, ev_I (Int32.ofNat k), ev_I 4], [], 0, 0) (n, lk, d, o) = some (.inl none, (n, lk, d', o)) ∧ CH 4 i d d' ∧ (∀ c, k ≤ c → c < 4 → d' 4 i c = x) ∧ ∀ c, c < k → d' 4 i c = d 4 i c := by
    intro j
    induction j with
    | zero =>
      intro k hk d
      have hk' : k = 4 := hk
      refine ⟨d, EV_bk (k := 400) ?_, CH_r d, fun c h1 h2 => by omega, fun _ _ => rfl⟩
      rw [bk_8_5_4, if_neg (fun z => by have := (ni_lt (b := 4) (by omega) (by omega)).mp z; omega)]
    | succ j ih =>
      intro k hk d
      obtain ⟨d', e, f, g, h⟩ := ih (k + 1) (by omega) (ev_u3 d 4 i k x)
      refine ⟨d', EV_bk (k := 400) ?_, CH_t CH_u f, fun c h1 h2 => ?_, fun c hc => ?_⟩
      · rw [bk_8_5_4, if_pos (show Int32.ofNat k < 4 from (ni_lt (b := 4) (by omega) (by omega)).mpr (by omega))]
        simp only [ni_in (n := k) (N := 4) (by omega) (by omega), ni_c (n := k) (by omega), cond_true, ni_1]
        exact e
      · by_cases z : c = k
        · subst z
          rw [h c (by omega), u3s]
        · exact g c (by omega) h2
      · rw [h c (by omega), u3x (by omega)]
  obtain ⟨d', e, f, g, -⟩ := loop 4 0 (by omega) d
  refine ⟨d', EV_bk (k := 400) ?_, f, fun k hk => g k (Nat.zero_le _) hk⟩
  rw [bk_8_0_4]
  exact e
theorem ec_fill_5 {i : Nat} {x : Int32} : ∃ d', EV (8, 0, [ev_R 5 i, ev_I x], [], 0, 0) (n, lk, d, o) = some (.inl none, (n, lk, d', o)) ∧ CH 5 i d d' ∧ ∀ k, k < 4 → d' 5 i k = x := by
  have loop : ∀ j k, k + j = 4 → ∀ d : Nat → Nat → Nat → Int32, ∃ d', EV (8, 5, [ev_R 5 i, ev_I x, ev_I (Int32.ofNat k), ev_I 4], [], 0, 0) (n, lk, d, o) = some (.inl none, (n, lk, d', o)) ∧ CH 5 i d d' ∧ (∀ c, k ≤ c → c < 4 → d' 5 i c = x) ∧ ∀ c, c < k → d' 5 i c = d 5 i c := by
    intro j
    induction j with
    | zero =>
      intro k hk d
      have hk' : k = 4 := hk
      refine ⟨d, EV_bk (k := 400) ?_, CH_r d, fun c h1 h2 => by omega, fun _ _ => rfl⟩
      rw [bk_8_5_5, if_neg (fun z => by have := (ni_lt (b := 4) (by omega) (by omega)).mp z; omega)]
    | succ j ih =>
      intro k hk d
      obtain ⟨d', e, f, g, h⟩ := ih (k + 1) (by omega) (ev_u3 d 5 i k x)
      refine ⟨d', EV_bk (k := 400) ?_, CH_t CH_u f, fun c h1 h2 => ?_, fun c hc => ?_⟩
      · rw [bk_8_5_5, if_pos (show Int32.ofNat k < 4 from (ni_lt (b := 4) (by omega) (by omega)).mpr (by omega))]
        simp only [ni_in (n := k) (N := 4) (by omega) (by omega), ni_c (n := k) (by omega), cond_true, ni_1]
        exact e
      · by_cases z : c = k
        · subst z
          rw [h c (by omega), u3s]
        · exact g c (by omega) h2
      · rw [h c (by omega), u3x (by omega)]
  obtain ⟨d', e, f, g, -⟩ := loop 4 0 (by omega) d
  refine ⟨d', EV_bk (k := 400) ?_, f, fun k hk => g k (Nat.zero_le _) hk⟩
  rw [bk_8_0_5]
  exact e
theorem ec_fill_6 {i : Nat} {x : Int32} : ∃ d', EV (8, 0, [ev_R 6 i, ev_I x], [], 0, 0) (n, lk, d, o) = some (.inl none, (n, lk, d', o)) ∧ CH 6 i d d' ∧ ∀ k, k < 4 → d' 6 i k = x := by
  have loop : ∀ j k, k + j = 4 → ∀ d : Nat → Nat → Nat → Int32, ∃ d', EV (8, 5, [ev_R 6 i, ev_I x, ev_I (Int32.ofNat k), ev_I 4], [], 0, 0) (n, lk, d, o) = some (.inl none, (n, lk, d', o)) ∧ CH 6 i d d' ∧ (∀ c, k ≤ c → c < 4 → d' 6 i c = x) ∧ ∀ c, c < k → d' 6 i c = d 6 i c := by
    intro j
    induction j with
    | zero =>
      intro k hk d
      have hk' : k = 4 := hk
      refine ⟨d, EV_bk (k := 400) ?_, CH_r d, fun c h1 h2 => by omega, fun _ _ => rfl⟩
      rw [bk_8_5_6, if_neg (fun z => by have := (ni_lt (b := 4) (by omega) (by omega)).mp z; omega)]
    | succ j ih =>
      intro k hk d
      obtain ⟨d', e, f, g, h⟩ := ih (k + 1) (by omega) (ev_u3 d 6 i k x)
      refine ⟨d', EV_bk (k := 400) ?_, CH_t CH_u f, fun c h1 h2 => ?_, fun c hc => ?_⟩
      · rw [bk_8_5_6, if_pos (show Int32.ofNat k < 4 from (ni_lt (b := 4) (by omega) (by omega)).mpr (by omega))]
        simp only [ni_in (n := k) (N := 4) (by omega) (by omega), ni_c (n := k) (by omega), cond_true, ni_1]
        exact e
      · by_cases z : c = k
        · subst z
          rw [h c (by omega), u3s]
        · exact g c (by omega) h2
      · rw [h c (by omega), u3x (by omega)]
  obtain ⟨d', e, f, g, -⟩ := loop 4 0 (by omega) d
  refine ⟨d', EV_bk (k := 400) ?_, f, fun k hk => g k (Nat.zero_le _) hk⟩
  rw [bk_8_0_6]
  exact e
theorem ec_fill_7 {i : Nat} {x : Int32} : ∃ d', EV (8, 0, [ev_R 7 i, ev_I x], [], 0, 0) (n, lk, d, o) = some (.inl none, (n, lk, d', o)) ∧ CH 7 i d d' ∧ ∀ k, k < 4 → d' 7 i k = x := by
  have loop : ∀ j k, k + j = 4 → ∀ d : Nat → Nat → Nat → Int32, ∃ d', EV (8, 5, [ev_R 7 i, ev_I x, ev_I (Int32.ofNat k), ev_I 4], [], 0, 0) (n, lk, d, o) = some (.inl none, (n, lk, d', o)) ∧ CH 7 i d d' ∧ (∀ c, k ≤ c → c < 4 → d' 7 i c = x) ∧ ∀ c, c < k → d' 7 i c = d 7 i c := by
    intro j
    induction j with
    | zero =>
      intro k hk d
      have hk' : k = 4 := hk
      refine ⟨d, EV_bk (k := 400) ?_, CH_r d, fun c h1 h2 => by omega, fun _ _ => rfl⟩
      rw [bk_8_5_7, if_neg (fun z => by have := (ni_lt (b := 4) (by omega) (by omega)).mp z; omega)]
    | succ j ih =>
      intro k hk d
      obtain ⟨d', e, f, g, h⟩ := ih (k + 1) (by omega) (ev_u3 d 7 i k x)
      refine ⟨d', EV_bk (k := 400) ?_, CH_t CH_u f, fun c h1 h2 => ?_, fun c hc => ?_⟩
      · rw [bk_8_5_7, if_pos (show Int32.ofNat k < 4 from (ni_lt (b := 4) (by omega) (by omega)).mpr (by omega))]
        simp only [ni_in (n := k) (N := 4) (by omega) (by omega), ni_c (n := k) (by omega), cond_true, ni_1]
        exact e
      · by_cases z : c = k
        · subst z
          rw [h c (by omega), u3s]
        · exact g c (by omega) h2
      · rw [h c (by omega), u3x (by omega)]
  obtain ⟨d', e, f, g, -⟩ := loop 4 0 (by omega) d
  refine ⟨d', EV_bk (k := 400) ?_, f, fun k hk => g k (Nat.zero_le _) hk⟩
  rw [bk_8_0_7]
  exact e
theorem ec_fill_8 {i : Nat} {x : Int32} : ∃ d', EV (8, 0, [ev_R 8 i, ev_I x], [], 0, 0) (n, lk, d, o) = some (.inl none, (n, lk, d', o)) ∧ CH 8 i d d' ∧ ∀ k, k < 4 → d' 8 i k = x := by
  have loop : ∀ j k, k + j = 4 → ∀ d : Nat → Nat → Nat → Int32, ∃ d', EV (8, 5, [ev_R 8 i, ev_I x, ev_I (Int32.ofNat k), ev_I 4], [], 0, 0) (n, lk, d, o) = some (.inl none, (n, lk, d', o)) ∧ CH 8 i d d' ∧ (∀ c, k ≤ c → c < 4 → d' 8 i c = x) ∧ ∀ c, c < k → d' 8 i c = d 8 i c := by
    intro j
    induction j with
    | zero =>
      intro k hk d
      have hk' : k = 4 := hk
      refine ⟨d, EV_bk (k := 400) ?_, CH_r d, fun c h1 h2 => by omega, fun _ _ => rfl⟩
      rw [bk_8_5_8, if_neg (fun z => by have := (ni_lt (b := 4) (by omega) (by omega)).mp z; omega)]
    | succ j ih =>
      intro k hk d
      obtain ⟨d', e, f, g, h⟩ := ih (k + 1) (by omega) (ev_u3 d 8 i k x)
      refine ⟨d', EV_bk (k := 400) ?_, CH_t CH_u f, fun c h1 h2 => ?_, fun c hc => ?_⟩
      · rw [bk_8_5_8, if_pos (show Int32.ofNat k < 4 from (ni_lt (b := 4) (by omega) (by omega)).mpr (by omega))]
        simp only [ni_in (n := k) (N := 4) (by omega) (by omega), ni_c (n := k) (by omega), cond_true, ni_1]
        exact e
      · by_cases z : c = k
        · subst z
          rw [h c (by omega), u3s]
        · exact g c (by omega) h2
      · rw [h c (by omega), u3x (by omega)]
  obtain ⟨d', e, f, g, -⟩ := loop 4 0 (by omega) d
  refine ⟨d', EV_bk (k := 400) ?_, f, fun k hk => g k (Nat.zero_le _) hk⟩
  rw [bk_8_0_8]
  exact e
theorem ec_fill_9 {i : Nat} {x : Int32} : ∃ d', EV (8, 0, [ev_R 9 i, ev_I x], [], 0, 0) (n, lk, d, o) = some (.inl none, (n, lk, d', o)) ∧ CH 9 i d d' ∧ ∀ k, k < 4 → d' 9 i k = x := by
  have loop : ∀ j k, k + j = 4 → ∀ d : Nat → Nat → Nat → Int32, ∃ d', EV (8, 5, [ev_R 9 i, ev_I x, ev_I (Int32.ofNat k), ev_I 4], [], 0, 0) (n, lk, d, o) = some (.inl none, (n, lk, d', o)) ∧ CH 9 i d d' ∧ (∀ c, k ≤ c → c < 4 → d' 9 i c = x) ∧ ∀ c, c < k → d' 9 i c = d 9 i c := by
    intro j
    induction j with
    | zero =>
      intro k hk d
      have hk' : k = 4 := hk
      refine ⟨d, EV_bk (k := 400) ?_, CH_r d, fun c h1 h2 => by omega, fun _ _ => rfl⟩
      rw [bk_8_5_9, if_neg (fun z => by have := (ni_lt (b := 4) (by omega) (by omega)).mp z; omega)]
    | succ j ih =>
      intro k hk d
      obtain ⟨d', e, f, g, h⟩ := ih (k + 1) (by omega) (ev_u3 d 9 i k x)
      refine ⟨d', EV_bk (k := 400) ?_, CH_t CH_u f, fun c h1 h2 => ?_, fun c hc => ?_⟩
      · rw [bk_8_5_9, if_pos (show Int32.ofNat k < 4 from (ni_lt (b := 4) (by omega) (by omega)).mpr (by omega))]
        simp only [ni_in (n := k) (N := 4) (by omega) (by omega), ni_c (n := k) (by omega), cond_true, ni_1]
        exact e
      · by_cases z : c = k
        · subst z
          rw [h c (by omega), u3s]
        · exact g c (by omega) h2
      · rw [h c (by omega), u3x (by omega)]
  obtain ⟨d', e, f, g, -⟩ := loop 4 0 (by omega) d
  refine ⟨d', EV_bk (k := 400) ?_, f, fun k hk => g k (Nat.zero_le _) hk⟩
  rw [bk_8_0_9]
  exact e
theorem ec_fill_10 {i : Nat} {x : Int32} : ∃ d', EV (8, 0, [ev_R 10 i, ev_I x], [], 0, 0) (n, lk, d, o) = some (.inl none, (n, lk, d', o)) ∧ CH 10 i d d' ∧ ∀ k, k < 4 → d' 10 i k = x := by
  have loop : ∀ j k, k + j = 4 → ∀ d : Nat → Nat → Nat → Int32, ∃ d', EV (8, 5, [ev_R 10 i, ev_I x, ev_I (Int32.ofNat k), ev_I 4], [], 0, 0) (n, lk, d, o) = some (.inl none, (n, lk, d', o)) ∧ CH 10 i d d' ∧ (∀ c, k ≤ c → c < 4 → d' 10 i c = x) ∧ ∀ c, c < k → d' 10 i c = d 10 i c := by
    intro j
    induction j with
    | zero =>
      intro k hk d
      have hk' : k = 4 := hk
      refine ⟨d, EV_bk (k := 400) ?_, CH_r d, fun c h1 h2 => by omega, fun _ _ => rfl⟩
      rw [bk_8_5_10, if_neg (fun z => by have := (ni_lt (b := 4) (by omega) (by omega)).mp z; omega)]
    | succ j ih =>
      intro k hk d
      obtain ⟨d', e, f, g, h⟩ := ih (k + 1) (by omega) (ev_u3 d 10 i k x)
      refine ⟨d', EV_bk (k := 400) ?_, CH_t CH_u f, fun c h1 h2 => ?_, fun c hc => ?_⟩
      · rw [bk_8_5_10, if_pos (show Int32.ofNat k < 4 from (ni_lt (b := 4) (by omega) (by omega)).mpr (by omega))]
        simp only [ni_in (n := k) (N := 4) (by omega) (by omega), ni_c (n := k) (by omega), cond_true, ni_1]
        exact e
      · by_cases z : c = k
        · subst z
          rw [h c (by omega), u3s]
        · exact g c (by omega) h2
      · rw [h c (by omega), u3x (by omega)]
  obtain ⟨d', e, f, g, -⟩ := loop 4 0 (by omega) d
  refine ⟨d', EV_bk (k := 400) ?_, f, fun k hk => g k (Nat.zero_le _) hk⟩
  rw [bk_8_0_10]
  exact e
theorem ec_fill_12 {i : Nat} {x : Int32} : ∃ d', EV (8, 0, [ev_R 12 i, ev_I x], [], 0, 0) (n, lk, d, o) = some (.inl none, (n, lk, d', o)) ∧ CH 12 i d d' ∧ ∀ k, k < 64 → d' 12 i k = x := by
  have loop : ∀ j k, k + j = 64 → ∀ d : Nat → Nat → Nat → Int32, ∃ d', EV (8, 5, [ev_R 12 i, ev_I x, ev_I (Int32.ofNat k), ev_I 64], [], 0, 0) (n, lk, d, o) = some (.inl none, (n, lk, d', o)) ∧ CH 12 i d d' ∧ (∀ c, k ≤ c → c < 64 → d' 12 i c = x) ∧ ∀ c, c < k → d' 12 i c = d 12 i c := by
    intro j
    induction j with
    | zero =>
      intro k hk d
      have hk' : k = 64 := hk
      refine ⟨d, EV_bk (k := 400) ?_, CH_r d, fun c h1 h2 => by omega, fun _ _ => rfl⟩
      rw [bk_8_5_12, if_neg (fun z => by have := (ni_lt (b := 64) (by omega) (by omega)).mp z; omega)]
    | succ j ih =>
      intro k hk d
      obtain ⟨d', e, f, g, h⟩ := ih (k + 1) (by omega) (ev_u3 d 12 i k x)
      refine ⟨d', EV_bk (k := 400) ?_, CH_t CH_u f, fun c h1 h2 => ?_, fun c hc => ?_⟩
      · rw [bk_8_5_12, if_pos (show Int32.ofNat k < 64 from (ni_lt (b := 64) (by omega) (by omega)).mpr (by omega))]
        simp only [ni_in (n := k) (N := 64) (by omega) (by omega), ni_c (n := k) (by omega), cond_true, ni_1]
        exact e
      · by_cases z : c = k
        · subst z
          rw [h c (by omega), u3s]
        · exact g c (by omega) h2
      · rw [h c (by omega), u3x (by omega)]
  obtain ⟨d', e, f, g, -⟩ := loop 64 0 (by omega) d
  refine ⟨d', EV_bk (k := 400) ?_, f, fun k hk => g k (Nat.zero_le _) hk⟩
  rw [bk_8_0_12]
  exact e
theorem ec_fill_13 {i : Nat} {x : Int32} : ∃ d', EV (8, 0, [ev_R 13 i, ev_I x], [], 0, 0) (n, lk, d, o) = some (.inl none, (n, lk, d', o)) ∧ CH 13 i d d' ∧ ∀ k, k < 64 → d' 13 i k = x := by
  have loop : ∀ j k, k + j = 64 → ∀ d : Nat → Nat → Nat → Int32, ∃ d', EV (8, 5, [ev_R 13 i, ev_I x, ev_I (Int32.ofNat k), ev_I 64], [], 0, 0) (n, lk, d, o) = some (.inl none, (n, lk, d', o)) ∧ CH 13 i d d' ∧ (∀ c, k ≤ c → c < 64 → d' 13 i c = x) ∧ ∀ c, c < k → d' 13 i c = d 13 i c := by
    intro j
    induction j with
    | zero =>
      intro k hk d
      have hk' : k = 64 := hk
      refine ⟨d, EV_bk (k := 400) ?_, CH_r d, fun c h1 h2 => by omega, fun _ _ => rfl⟩
      rw [bk_8_5_13, if_neg (fun z => by have := (ni_lt (b := 64) (by omega) (by omega)).mp z; omega)]
    | succ j ih =>
      intro k hk d
      obtain ⟨d', e, f, g, h⟩ := ih (k + 1) (by omega) (ev_u3 d 13 i k x)
      refine ⟨d', EV_bk (k := 400) ?_, CH_t CH_u f, fun c h1 h2 => ?_, fun c hc => ?_⟩
      · rw [bk_8_5_13, if_pos (show Int32.ofNat k < 64 from (ni_lt (b := 64) (by omega) (by omega)).mpr (by omega))]
        simp only [ni_in (n := k) (N := 64) (by omega) (by omega), ni_c (n := k) (by omega), cond_true, ni_1]
        exact e
      · by_cases z : c = k
        · subst z
          rw [h c (by omega), u3s]
        · exact g c (by omega) h2
      · rw [h c (by omega), u3x (by omega)]
  obtain ⟨d', e, f, g, -⟩ := loop 64 0 (by omega) d
  refine ⟨d', EV_bk (k := 400) ?_, f, fun k hk => g k (Nat.zero_le _) hk⟩
  rw [bk_8_0_13]
  exact e
theorem ec_fill_14 {i : Nat} {x : Int32} : ∃ d', EV (8, 0, [ev_R 14 i, ev_I x], [], 0, 0) (n, lk, d, o) = some (.inl none, (n, lk, d', o)) ∧ CH 14 i d d' ∧ ∀ k, k < 64 → d' 14 i k = x := by
  have loop : ∀ j k, k + j = 64 → ∀ d : Nat → Nat → Nat → Int32, ∃ d', EV (8, 5, [ev_R 14 i, ev_I x, ev_I (Int32.ofNat k), ev_I 64], [], 0, 0) (n, lk, d, o) = some (.inl none, (n, lk, d', o)) ∧ CH 14 i d d' ∧ (∀ c, k ≤ c → c < 64 → d' 14 i c = x) ∧ ∀ c, c < k → d' 14 i c = d 14 i c := by
    intro j
    induction j with
    | zero =>
      intro k hk d
      have hk' : k = 64 := hk
      refine ⟨d, EV_bk (k := 400) ?_, CH_r d, fun c h1 h2 => by omega, fun _ _ => rfl⟩
      rw [bk_8_5_14, if_neg (fun z => by have := (ni_lt (b := 64) (by omega) (by omega)).mp z; omega)]
    | succ j ih =>
      intro k hk d
      obtain ⟨d', e, f, g, h⟩ := ih (k + 1) (by omega) (ev_u3 d 14 i k x)
      refine ⟨d', EV_bk (k := 400) ?_, CH_t CH_u f, fun c h1 h2 => ?_, fun c hc => ?_⟩
      · rw [bk_8_5_14, if_pos (show Int32.ofNat k < 64 from (ni_lt (b := 64) (by omega) (by omega)).mpr (by omega))]
        simp only [ni_in (n := k) (N := 64) (by omega) (by omega), ni_c (n := k) (by omega), cond_true, ni_1]
        exact e
      · by_cases z : c = k
        · subst z
          rw [h c (by omega), u3s]
        · exact g c (by omega) h2
      · rw [h c (by omega), u3x (by omega)]
  obtain ⟨d', e, f, g, -⟩ := loop 64 0 (by omega) d
  refine ⟨d', EV_bk (k := 400) ?_, f, fun k hk => g k (Nat.zero_le _) hk⟩
  rw [bk_8_0_14]
  exact e
theorem ec_fill_15 {i : Nat} {x : Int32} : ∃ d', EV (8, 0, [ev_R 15 i, ev_I x], [], 0, 0) (n, lk, d, o) = some (.inl none, (n, lk, d', o)) ∧ CH 15 i d d' ∧ ∀ k, k < 64 → d' 15 i k = x := by
  have loop : ∀ j k, k + j = 64 → ∀ d : Nat → Nat → Nat → Int32, ∃ d', EV (8, 5, [ev_R 15 i, ev_I x, ev_I (Int32.ofNat k), ev_I 64], [], 0, 0) (n, lk, d, o) = some (.inl none, (n, lk, d', o)) ∧ CH 15 i d d' ∧ (∀ c, k ≤ c → c < 64 → d' 15 i c = x) ∧ ∀ c, c < k → d' 15 i c = d 15 i c := by
    intro j
    induction j with
    | zero =>
      intro k hk d
      have hk' : k = 64 := hk
      refine ⟨d, EV_bk (k := 400) ?_, CH_r d, fun c h1 h2 => by omega, fun _ _ => rfl⟩
      rw [bk_8_5_15, if_neg (fun z => by have := (ni_lt (b := 64) (by omega) (by omega)).mp z; omega)]
    | succ j ih =>
      intro k hk d
      obtain ⟨d', e, f, g, h⟩ := ih (k + 1) (by omega) (ev_u3 d 15 i k x)
      refine ⟨d', EV_bk (k := 400) ?_, CH_t CH_u f, fun c h1 h2 => ?_, fun c hc => ?_⟩
      · rw [bk_8_5_15, if_pos (show Int32.ofNat k < 64 from (ni_lt (b := 64) (by omega) (by omega)).mpr (by omega))]
        simp only [ni_in (n := k) (N := 64) (by omega) (by omega), ni_c (n := k) (by omega), cond_true, ni_1]
        exact e
      · by_cases z : c = k
        · subst z
          rw [h c (by omega), u3s]
        · exact g c (by omega) h2
      · rw [h c (by omega), u3x (by omega)]
  obtain ⟨d', e, f, g, -⟩ := loop 64 0 (by omega) d
  refine ⟨d', EV_bk (k := 400) ?_, f, fun k hk => g k (Nat.zero_le _) hk⟩
  rw [bk_8_0_15]
  exact e
theorem ec_fill_16 {i : Nat} {x : Int32} : ∃ d', EV (8, 0, [ev_R 16 i, ev_I x], [], 0, 0) (n, lk, d, o) = some (.inl none, (n, lk, d', o)) ∧ CH 16 i d d' ∧ ∀ k, k < 64 → d' 16 i k = x := by
  have loop : ∀ j k, k + j = 64 → ∀ d : Nat → Nat → Nat → Int32, ∃ d', EV (8, 5, [ev_R 16 i, ev_I x, ev_I (Int32.ofNat k), ev_I 64], [], 0, 0) (n, lk, d, o) = some (.inl none, (n, lk, d', o)) ∧ CH 16 i d d' ∧ (∀ c, k ≤ c → c < 64 → d' 16 i c = x) ∧ ∀ c, c < k → d' 16 i c = d 16 i c := by
    intro j
    induction j with
    | zero =>
      intro k hk d
      have hk' : k = 64 := hk
      refine ⟨d, EV_bk (k := 400) ?_, CH_r d, fun c h1 h2 => by omega, fun _ _ => rfl⟩
      rw [bk_8_5_16, if_neg (fun z => by have := (ni_lt (b := 64) (by omega) (by omega)).mp z; omega)]
    | succ j ih =>
      intro k hk d
      obtain ⟨d', e, f, g, h⟩ := ih (k + 1) (by omega) (ev_u3 d 16 i k x)
      refine ⟨d', EV_bk (k := 400) ?_, CH_t CH_u f, fun c h1 h2 => ?_, fun c hc => ?_⟩
      · rw [bk_8_5_16, if_pos (show Int32.ofNat k < 64 from (ni_lt (b := 64) (by omega) (by omega)).mpr (by omega))]
        simp only [ni_in (n := k) (N := 64) (by omega) (by omega), ni_c (n := k) (by omega), cond_true, ni_1]
        exact e
      · by_cases z : c = k
        · subst z
          rw [h c (by omega), u3s]
        · exact g c (by omega) h2
      · rw [h c (by omega), u3x (by omega)]
  obtain ⟨d', e, f, g, -⟩ := loop 64 0 (by omega) d
  refine ⟨d', EV_bk (k := 400) ?_, f, fun k hk => g k (Nat.zero_le _) hk⟩
  rw [bk_8_0_16]
  exact e
end EC46
