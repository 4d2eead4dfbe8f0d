/-! THE PROGRAM AGAINST THE REFERENCE, 64: the reference begins with what was read -/
/-- what beginning leaves as it was -/
def KB (d d' : Nat → Nat → Nat → Int32) : Prop := (∀ r, r ≠ 44 → r ≠ 45 → r ≠ 46 → r ≠ 60 → d' r = d r) ∧ ∀ k, k ≠ 25 → d' 44 0 k = d 44 0 k
theorem KB_r (d : Nat → Nat → Nat → Int32) : KB d d := ⟨fun _ _ _ _ _ => rfl, fun _ _ => rfl⟩
theorem KB_t {d d' d'' : Nat → Nat → Nat → Int32} (h : KB d d') (h' : KB d' d'') : KB d d'' := ⟨fun r x y z u => (h'.1 r x y z u).trans (h.1 r x y z u), fun k x => (h'.2 k x).trans (h.2 k x)⟩
theorem KB_u {d : Nat → Nat → Nat → Int32} {r k : Nat} {v : Int32} (h : r = 45 ∨ r = 46 ∨ r = 60) : KB d (ev_u3 d r 0 k v) := ⟨fun r' _ x y z => by rw [u3n (by omega)], fun k' _ => by rw [u3n (by omega)]⟩
theorem KB_w {d : Nat → Nat → Nat → Int32} {f : Nat → Int32} : KB d (ev_w3 d 46 0 f) := ⟨fun r' _ _ y _ => w3n y, fun k' _ => by rw [w3n (by decide)]⟩
theorem pw_9 {s a : Nat → Int32} : ∀ C, pw s a C 9 = Int32.ofNat C
  | 0 => rfl
  | C + 1 => ms_addq_9
section EC49
variable {n : Nat} {lk : Nat → Nat → Nat → Bool} {d : Nat → Nat → Nat → Int32} {o : ev_W}
theorem em_begins (hl : LK lk) {C : Nat} (h14 : d 44 0 14 = Int32.ofNat C) (hC : C ≤ 20) :
    ∃ d', EV (152, 0, [ev_R 44 0], [], 0, 0) (n, lk, d, o) = some (.inl none, (n, lk, d', o)) ∧ KB d d' ∧ d' 44 0 25 = 0 ∧ (∀ k, k < 132 → d' 45 0 k = d 48 0 k) ∧ (∀ k, k < 615 → d' 46 0 k = pw (d 49 0) (d 50 0) C k) ∧ d' 60 0 0 = 0 ∧ d' 60 0 1 = 0 := by
  -- the requests
  have l5 : ∀ j k, k + j = C → ∀ e : Nat → Nat → Nat → Int32, KB d e → (∀ c, c < 132 → e 45 0 c = d 48 0 c) → (∀ c, c < 615 → e 46 0 c = pw (d 49 0) (d 50 0) k c) →
      ∃ d', EV (152, 114, [ev_R 44 0, ev_I (Int32.ofNat k)], [], 0, 0) (n, lk, e, o) = some (.inl none, (n, lk, d', o)) ∧ KB d d' ∧ d' 44 0 25 = 0 ∧ (∀ k, k < 132 → d' 45 0 k = d 48 0 k) ∧ (∀ k, k < 615 → d' 46 0 k = pw (d 49 0) (d 50 0) C k) ∧ d' 60 0 0 = 0 ∧ d' 60 0 1 = 0 := by
    intro j
    induction j with
    | zero =>
      intro k hk e kb h45 h46
      have hk' : k = C := hk
      refine ⟨ev_u3 (ev_u3 (ev_u3 e 44 0 25 0) 60 0 0 0) 60 0 1 0, EV_bk (k := 400) ?_, KB_t kb (KB_t (⟨fun r x _ _ _ => u3n x, fun k' hk' => u3x hk'⟩ : KB e (ev_u3 e 44 0 25 0)) (KB_t (KB_u (by omega)) (KB_u (by omega)))), by rw [u3n (by decide), u3n (by decide), u3s], fun c hc => by rw [u3n (by decide), u3n (by decide), u3n (by decide), h45 c hc], fun c hc => by rw [u3n (by decide), u3n (by decide), u3n (by decide), h46 c hc, hk'], by rw [u3x (by decide), u3s], u3s⟩
      rw [bk_152_114, kb.2 14 (by decide), h14, if_neg (fun z => by have := (ni_lt (by omega) (by omega)).mp z; omega), hl 44 0 28 rfl (by decide) (by decide), cond_true]
      rfl
    | succ j ih =>
      intro k hk e kb h45 h46
      have i0 : (3 : Int32) * Int32.ofNat k = Int32.ofNat (3 * k) := by rw [Int32.ofNat_mul]; rfl
      have i1 : Int32.ofNat (3 * k) + 1 = Int32.ofNat (3 * k + 1) := by rw [Int32.ofNat_add]; rfl
      have i2 : Int32.ofNat (3 * k) + 2 = Int32.ofNat (3 * k + 2) := by rw [Int32.ofNat_add]; rfl
      have e50 : e 50 = d 50 := kb.1 50 (by decide) (by decide) (by decide) (by decide)
      have e9 : e 46 0 9 = Int32.ofNat k := by rw [h46 9 (by decide), pw_9]
      obtain ⟨d', x, f⟩ := ih (k + 1) (by omega) (ev_w3 e 46 0 (ms_addq (e 46 0) k (d 50 0 (3 * k)) (d 50 0 (3 * k + 1)) (d 50 0 (3 * k + 2)))) (KB_t kb KB_w) (fun c hc => by rw [w3n (by decide), h45 c hc]) (fun c hc => by
        rw [w3s]
        exact ms_addq_c (h46 c hc))
      refine ⟨d', EV_bk (k := 400) ?_, f⟩
      rw [bk_152_114, kb.2 14 (by decide), h14, if_pos ((ni_lt (by omega) (by omega)).mpr (by omega))]
      simp only [hl 44 0 17 rfl (by decide) (by decide), cond_true, i0, i1, i2, ni_in (n := 3 * k) (N := 60) (by omega) (by omega), ni_c (n := 3 * k) (by omega), ni_in (n := 3 * k + 1) (N := 60) (by omega) (by omega), ni_c (n := 3 * k + 1) (by omega), ni_in (n := 3 * k + 2) (N := 60) (by omega) (by omega), ni_c (n := 3 * k + 2) (by omega), e50]
      rw [em_requests hl e9 (by omega)]
      simp only [ev_bi, ni_1]
      exact x
  -- wishes
  have l4 : ∀ j k, k + j = 4 → ∀ e : Nat → Nat → Nat → Int32, KB d e → (∀ c, c < 132 → e 45 0 c = d 48 0 c) → (∀ c, c < 615 → e 46 0 c = if c < 8 then d 49 0 c else if c = 18 then -1 else if ∃ b, b < k ∧ (c = 19 + 9 * b + 6 ∨ c = 19 + 9 * b + 7) then -1 else 0) →
      ∃ d', EV (152, 85, [ev_R 44 0, ev_I (Int32.ofNat k)], [], 0, 0) (n, lk, e, o) = some (.inl none, (n, lk, d', o)) ∧ KB d d' ∧ d' 44 0 25 = 0 ∧ (∀ k, k < 132 → d' 45 0 k = d 48 0 k) ∧ (∀ k, k < 615 → d' 46 0 k = pw (d 49 0) (d 50 0) C k) ∧ d' 60 0 0 = 0 ∧ d' 60 0 1 = 0 := by
    intro j
    induction j with
    | zero =>
      intro k hk e kb h45 h46
      have hk' : k = 4 := hk
      subst hk'
      obtain ⟨d', x, f⟩ := l5 C 0 (by omega) e kb h45 (fun c hc => by
        rw [h46 c hc]
        show _ = pb (d 49 0) c
        unfold pb
        have he : (∃ b, b < 4 ∧ (c = 19 + 9 * b + 6 ∨ c = 19 + 9 * b + 7)) ↔ (c = 25 ∨ c = 26 ∨ c = 34 ∨ c = 35 ∨ c = 43 ∨ c = 44 ∨ c = 52 ∨ c = 53) := by
          constructor
          · rintro ⟨b, hb, h⟩
            omega
          · intro h
            rcases h with h | h | h | h | h | h | h | h
            · exact ⟨0, by omega, by omega⟩
            · exact ⟨0, by omega, by omega⟩
            · exact ⟨1, by omega, by omega⟩
            · exact ⟨1, by omega, by omega⟩
            · exact ⟨2, by omega, by omega⟩
            · exact ⟨2, by omega, by omega⟩
            · exact ⟨3, by omega, by omega⟩
            · exact ⟨3, by omega, by omega⟩
        by_cases a : c < 8
        · rw [if_pos a, if_pos a]
        · rw [if_neg a, if_neg a]
          by_cases a2 : c = 18
          · rw [if_pos a2, if_pos a2]
          · rw [if_neg a2, if_neg a2]
            by_cases a3 : ∃ b, b < 4 ∧ (c = 19 + 9 * b + 6 ∨ c = 19 + 9 * b + 7)
            · rw [if_pos a3, if_pos (he.mp a3)]
            · rw [if_neg a3, if_neg (fun v => a3 (he.mpr v))])
      refine ⟨d', EV_bk (k := 400) ?_, f⟩
      rw [bk_152_85, if_neg (by decide)]
      exact x
    | succ j ih =>
      intro k hk e kb h45 h46
      obtain ⟨d', x, f⟩ := ih (k + 1) (by omega) (ev_u3 (ev_u3 e 46 0 (19 + 9 * k + 6) (-1)) 46 0 (19 + 9 * k + 7) (-1)) (KB_t kb (KB_t (KB_u (by omega)) (KB_u (by omega)))) (fun c hc => by rw [u3n (by decide), u3n (by decide), h45 c hc]) (fun c hc => by
        by_cases a7 : c = 19 + 9 * k + 7
        · subst a7
          rw [u3s, if_neg (by omega), if_neg (by omega), if_pos ⟨k, by omega, .inr rfl⟩]
        · rw [u3x a7]
          by_cases a6 : c = 19 + 9 * k + 6
          · subst a6
            rw [u3s, if_neg (by omega), if_neg (by omega), if_pos ⟨k, by omega, .inl rfl⟩]
          · rw [u3x a6, h46 c hc]
            have he : (∃ b, b < k + 1 ∧ (c = 19 + 9 * b + 6 ∨ c = 19 + 9 * b + 7)) ↔ (∃ b, b < k ∧ (c = 19 + 9 * b + 6 ∨ c = 19 + 9 * b + 7)) := by
              constructor
              · rintro ⟨b, hb, h⟩
                by_cases y : b = k
                · subst y
                  omega
                · exact ⟨b, by omega, h⟩
              · rintro ⟨b, hb, h⟩
                exact ⟨b, by omega, h⟩
            by_cases a3 : ∃ b, b < k ∧ (c = 19 + 9 * b + 6 ∨ c = 19 + 9 * b + 7)
            · rw [if_pos a3, if_pos (he.mpr a3)]
            · rw [if_neg a3, if_neg (fun v => a3 (he.mp v))])
      refine ⟨d', EV_bk (k := 400) ?_, f⟩
      rw [bk_152_85, if_pos (show Int32.ofNat k < 4 from (ni_lt (b := 4) (by omega) (by omega)).mpr (by omega)), em_sets hl (w := 6) (x := 6) rfl (by omega)]
      simp only [ev_bv]
      rw [em_sets hl (w := 7) (x := 7) rfl (by omega)]
      simp only [ni_1]
      exact x
  -- the settings
  have l3 : ∀ j k, k + j = 8 → ∀ e : Nat → Nat → Nat → Int32, KB d e → (∀ c, c < 132 → e 45 0 c = d 48 0 c) → (∀ c, c < 615 → e 46 0 c = if c < k then d 49 0 c else 0) →
      ∃ d', EV (152, 51, [ev_R 44 0, ev_I (Int32.ofNat k)], [], 0, 0) (n, lk, e, o) = some (.inl none, (n, lk, d', o)) ∧ KB d d' ∧ d' 44 0 25 = 0 ∧ (∀ k, k < 132 → d' 45 0 k = d 48 0 k) ∧ (∀ k, k < 615 → d' 46 0 k = pw (d 49 0) (d 50 0) C k) ∧ d' 60 0 0 = 0 ∧ d' 60 0 1 = 0 := by
    intro j
    induction j with
    | zero =>
      intro k hk e kb h45 h46
      have hk' : k = 8 := hk
      subst hk'
      obtain ⟨d', x, f⟩ := l4 4 0 rfl (ev_u3 e 46 0 18 (-1)) (KB_t kb (KB_u (by omega))) (fun c hc => by rw [u3n (by decide), h45 c hc]) (fun c hc => by
        by_cases a : c = 18
        · subst a
          rw [u3s]
          rfl
        · rw [u3x a, h46 c hc, if_neg a, if_neg (show ¬ ∃ b, b < 0 ∧ (c = 19 + 9 * b + 6 ∨ c = 19 + 9 * b + 7) from fun ⟨b, hb, _⟩ => absurd hb (Nat.not_lt_zero _))])
      refine ⟨d', EV_bk (k := 400) ?_, f⟩
      rw [bk_152_51, if_neg (by decide), hl 44 0 2 rfl (by decide) (by decide), cond_true]
      exact x
    | succ j ih =>
      intro k hk e kb h45 h46
      obtain ⟨d', x, f⟩ := ih (k + 1) (by omega) (ev_u3 e 46 0 k (d 49 0 k)) (KB_t kb (KB_u (by omega))) (fun c hc => by rw [u3n (by decide), h45 c hc]) (fun c hc => by
        by_cases a : c = k
        · subst a
          rw [u3s, if_pos (by omega)]
        · rw [u3x a, h46 c hc]
          by_cases y : c < k
          · rw [if_pos y, if_pos (by omega)]
          · rw [if_neg y, if_neg (by omega)])
      refine ⟨d', EV_bk (k := 400) ?_, f⟩
      rw [bk_152_51, if_pos (show Int32.ofNat k ≤ 7 from (ni_le (b := 7) (by omega) (by omega)).mpr (by omega)), hl 44 0 2 rfl (by decide) (by decide), hl 44 0 16 rfl (by decide) (by decide), cond_true, cond_true]
      simp only [ni_in (n := k) (N := 8) (by omega) (by omega), ni_c (n := k) (by omega), ni_in (n := k) (N := 615) (by omega) (by omega), cond_true, ni_1, kb.1 49 (by decide) (by decide) (by decide) (by decide)]
      exact x
  -- all numbers are 0
  have l2 : ∀ j k, k + j = 615 → ∀ e : Nat → Nat → Nat → Int32, KB d e → (∀ c, c < 132 → e 45 0 c = d 48 0 c) → (∀ c, c < k → e 46 0 c = 0) →
      ∃ d', EV (152, 29, [ev_R 44 0, ev_I (Int32.ofNat k)], [], 0, 0) (n, lk, e, o) = some (.inl none, (n, lk, d', o)) ∧ KB d d' ∧ d' 44 0 25 = 0 ∧ (∀ k, k < 132 → d' 45 0 k = d 48 0 k) ∧ (∀ k, k < 615 → d' 46 0 k = pw (d 49 0) (d 50 0) C k) ∧ d' 60 0 0 = 0 ∧ d' 60 0 1 = 0 := by
    intro j
    induction j with
    | zero =>
      intro k hk e kb h45 h46
      have hk' : k = 615 := hk
      subst hk'
      obtain ⟨d', x, f⟩ := l3 8 0 rfl e kb h45 (fun c hc => by rw [h46 c hc, if_neg (Nat.not_lt_zero _)])
      refine ⟨d', EV_bk (k := 400) ?_, f⟩
      rw [bk_152_29, if_neg (by decide)]
      exact x
    | succ j ih =>
      intro k hk e kb h45 h46
      obtain ⟨d', x, f⟩ := ih (k + 1) (by omega) (ev_u3 e 46 0 k 0) (KB_t kb (KB_u (by omega))) (fun c hc => by rw [u3n (by decide), h45 c hc]) (fun c hc => by
        by_cases a : c = k
        · subst a
          rw [u3s]
        · rw [u3x a, h46 c (by omega)])
      refine ⟨d', EV_bk (k := 400) ?_, f⟩
      rw [bk_152_29, if_pos (show Int32.ofNat k < 615 from (ni_lt (b := 615) (by omega) (by omega)).mpr (by omega)), hl 44 0 2 rfl (by decide) (by decide), cond_true]
      simp only [ni_in (n := k) (N := 615) (by omega) (by omega), ni_c (n := k) (by omega), cond_true, ni_1]
      exact x
  -- what was told
  have l1 : ∀ j k, k + j = 132 → ∀ e : Nat → Nat → Nat → Int32, KB d e → (∀ c, c < k → e 45 0 c = d 48 0 c) →
      ∃ d', EV (152, 2, [ev_R 44 0, ev_I (Int32.ofNat k)], [], 0, 0) (n, lk, e, o) = some (.inl none, (n, lk, d', o)) ∧ KB d d' ∧ d' 44 0 25 = 0 ∧ (∀ k, k < 132 → d' 45 0 k = d 48 0 k) ∧ (∀ k, k < 615 → d' 46 0 k = pw (d 49 0) (d 50 0) C k) ∧ d' 60 0 0 = 0 ∧ d' 60 0 1 = 0 := by
    intro j
    induction j with
    | zero =>
      intro k hk e kb h45
      have hk' : k = 132 := hk
      subst hk'
      obtain ⟨d', x, f⟩ := l2 615 0 rfl e kb h45 (fun c hc => absurd hc (Nat.not_lt_zero _))
      refine ⟨d', EV_bk (k := 400) ?_, f⟩
      rw [bk_152_2, if_neg (by decide)]
      exact x
    | succ j ih =>
      intro k hk e kb h45
      obtain ⟨d', x, f⟩ := ih (k + 1) (by omega) (ev_u3 e 45 0 k (d 48 0 k)) (KB_t kb (KB_u (by omega))) (fun c hc => by
        by_cases a : c = k
        · subst a
          rw [u3s]
        · rw [u3x a, h45 c (by omega)])
      refine ⟨d', EV_bk (k := 400) ?_, f⟩
      rw [bk_152_2, if_pos (show Int32.ofNat k < 132 from (ni_lt (b := 132) (by omega) (by omega)).mpr (by omega)), hl 44 0 1 rfl (by decide) (by decide), hl 44 0 15 rfl (by decide) (by decide), cond_true, cond_true]
      simp only [ni_in (n := k) (N := 132) (by omega) (by omega), ni_c (n := k) (by omega), cond_true, ni_1, kb.1 48 (by decide) (by decide) (by decide) (by decide)]
      exact x
  obtain ⟨d', x, f⟩ := l1 132 0 rfl d (KB_r d) (fun c hc => absurd hc (Nat.not_lt_zero _))
  refine ⟨d', EV_bk (k := 400) ?_, f⟩
  rw [bk_152_0]
  exact x
end EC49
