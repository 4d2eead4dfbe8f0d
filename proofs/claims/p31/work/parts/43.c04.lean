/-! THE PROGRAM AGAINST THE REFERENCE, 71: the reference is made, and the law holds -/
theorem ir_cb : ∀ r, r < 62 → ∀ k, k < 29 → (Nat.ble (sd_n r) k || (!ev_ir r k || (Nat.ble r 23 || ((Nat.beq r 24 && (Nat.ble 5 k && Nat.ble k 6)) || ((Nat.beq r 27 && Nat.ble k 7) || ((Nat.beq r 28 && Nat.ble k 3) || ((Nat.beq r 29 && Nat.ble k 0) || ((Nat.beq r 32 && Nat.ble k 6) || ((Nat.beq r 39 && Nat.ble k 0) || ((Nat.beq r 40 && Nat.ble k 9) || ((Nat.beq r 41 && Nat.ble k 1) || ((Nat.beq r 42 && Nat.ble k 1) || (Nat.beq r 44 && ((Nat.ble 1 k && Nat.ble k 3) || ((Nat.ble 15 k && Nat.ble k 24) || (Nat.ble 26 k && Nat.ble k 28)))))))))))))))) = true := by
  decide +kernel
theorem ir_n : ∀ r, r < 62 → (ev_kn r).1 = 0 ∨ (ev_kn r).1 = 5 → sd_n r ≤ 29 := by
  decide +kernel
theorem ir_k {r k : Nat} (h : ev_ir r k = true) : (ev_kn r).1 = 0 ∨ (ev_kn r).1 = 5 := by
  unfold ev_ir at h
  generalize ev_kn r = p at h
  obtain ⟨a, c⟩ := p
  by_cases z0 : a = 0
  · exact .inl z0
  · by_cases z5 : a = 5
    · exact .inr z5
    · exfalso
      split at h
      · rename_i e
        have := (Prod.mk.inj e).1
        exact z0 this
      · rename_i e
        have := (Prod.mk.inj e).1
        exact z5 this
      · exact absurd h (by decide)
theorem ir_c {r k : Nat} (hr : r < 62) (hi : ev_ir r k = true) (hk : k < sd_n r) : r ≤ 23 ∨ (r = 24 ∧ 5 ≤ k ∧ k ≤ 6) ∨ (r = 27 ∧ k ≤ 7) ∨ (r = 28 ∧ k ≤ 3) ∨ (r = 29 ∧ k ≤ 0) ∨ (r = 32 ∧ k ≤ 6) ∨ (r = 39 ∧ k ≤ 0) ∨ (r = 40 ∧ k ≤ 9) ∨ (r = 41 ∧ k ≤ 1) ∨ (r = 42 ∧ k ≤ 1) ∨ (r = 44 ∧ ((1 ≤ k ∧ k ≤ 3) ∨ (15 ≤ k ∧ k ≤ 24) ∨ (26 ≤ k ∧ k ≤ 28))) := by
  have hk29 : k < 29 := Nat.lt_of_lt_of_le hk (ir_n r hr (ir_k hi))
  have h := ir_cb r hr k hk29
  have hkb : Nat.ble (sd_n r) k = false := by
    cases e : Nat.ble (sd_n r) k
    · rfl
    · exact absurd (Nat.ble_eq.mp e) (by omega)
  rw [hi, hkb] at h
  simp only [Bool.not_true, Bool.false_or, Bool.or_eq_true, Bool.and_eq_true, Nat.beq_eq, Nat.ble_eq] at h
  exact h
theorem cn_small (r : Nat) : (62 ≤ r → ev_cn r = 0) ∧ (26 < r → ev_cn r ≤ 1) ∧ (23 < r → ev_cn r ≤ 2) ∧ ev_cn r ≤ 15 := by
  unfold ev_cn
  by_cases a : r ≤ 23
  · rw [show Nat.ble r 23 = true from Nat.ble_eq.mpr a, cond_true]
    omega
  · have a' : Nat.ble r 23 = false := by
      cases h : Nat.ble r 23
      · rfl
      · exact absurd (Nat.ble_eq.mp h) a
    rw [a', cond_false]
    by_cases b : r ≤ 26
    · rw [show Nat.ble r 26 = true from Nat.ble_eq.mpr b, cond_true]
      omega
    · have b' : Nat.ble r 26 = false := by
        cases h : Nat.ble r 26
        · rfl
        · exact absurd (Nat.ble_eq.mp h) b
      rw [b', cond_false]
      by_cases c : r ≤ 61
      · rw [show Nat.ble r 61 = true from Nat.ble_eq.mpr c, cond_true]
        omega
      · have c' : Nat.ble r 61 = false := by
          cases h : Nat.ble r 61
          · rfl
          · exact absurd (Nat.ble_eq.mp h) c
        rw [c', cond_false]
        omega
/-- all links, out of the program's and the reference's -/
theorem LK_of {lk : Nat → Nat → Nat → Bool} (h : LKC lk) (h1 : ∀ k, (1 ≤ k ∧ k ≤ 3) ∨ (15 ≤ k ∧ k ≤ 24) ∨ (26 ≤ k ∧ k ≤ 28) → lk 44 0 k = true) : LK lk := by
  obtain ⟨hs, ⟨h0, h0', h0b, h0c⟩, h27, h28, h29, h32, h39, h40, h41, h42⟩ := h
  intro r i k hir hi hk
  obtain ⟨c1, c2, c3, c4⟩ := cn_small r
  have hr : r < 62 := by
    by_cases z : 62 ≤ r
    · have := c1 z
      omega
    · omega
  rcases ir_c hr hir hk with e | ⟨e, a, b⟩ | ⟨e, a⟩ | ⟨e, a⟩ | ⟨e, a⟩ | ⟨e, a⟩ | ⟨e, a⟩ | ⟨e, a⟩ | ⟨e, a⟩ | ⟨e, a⟩ | ⟨e, a⟩
  · exact hs i (by omega) r k (by omega) hir hk
  · subst e
    have hi2 : i < 2 := Nat.lt_of_lt_of_le hi (c3 (by decide))
    have hk2 : k = 5 ∨ k = 6 := by omega
    match i, hi2 with
    | 0, _ => rcases hk2 with z | z <;> subst z <;> assumption
    | 1, _ => rcases hk2 with z | z <;> subst z <;> assumption
  · subst e
    have hi1 : i < 1 := Nat.lt_of_lt_of_le hi (c2 (by decide))
    have : i = 0 := by omega
    subst this
    exact h27 k (by omega)
  · subst e
    have hi1 : i < 1 := Nat.lt_of_lt_of_le hi (c2 (by decide))
    have : i = 0 := by omega
    subst this
    exact h28 k (by omega)
  · subst e
    have hi1 : i < 1 := Nat.lt_of_lt_of_le hi (c2 (by decide))
    have : i = 0 := by omega
    subst this
    have : k = 0 := by omega
    subst this
    exact h29
  · subst e
    have hi1 : i < 1 := Nat.lt_of_lt_of_le hi (c2 (by decide))
    have : i = 0 := by omega
    subst this
    exact h32 k (by omega)
  · subst e
    have hi1 : i < 1 := Nat.lt_of_lt_of_le hi (c2 (by decide))
    have : i = 0 := by omega
    subst this
    have : k = 0 := by omega
    subst this
    exact h39
  · subst e
    have hi1 : i < 1 := Nat.lt_of_lt_of_le hi (c2 (by decide))
    have : i = 0 := by omega
    subst this
    exact h40 k (by omega)
  · subst e
    have hi1 : i < 1 := Nat.lt_of_lt_of_le hi (c2 (by decide))
    have : i = 0 := by omega
    subst this
    match k, a with
    | 0, _ => exact h41.1
    | 1, _ => exact h41.2
  · subst e
    have hi1 : i < 1 := Nat.lt_of_lt_of_le hi (c2 (by decide))
    have : i = 0 := by omega
    subst this
    exact h42 k (by omega)
  · subst e
    have hi1 : i < 1 := Nat.lt_of_lt_of_le hi (c2 (by decide))
    have : i = 0 := by omega
    subst this
    exact h1 k a
theorem LKC_s {lk lk' : Nat → Nat → Nat → Bool} (h : LKC lk) (e : ∀ r j k, r < 44 → lk' r j k = lk r j k) : LKC lk' := by
  obtain ⟨hs, ⟨h0, h0', h0b, h0c⟩, h27, h28, h29, h32, h39, h40, ⟨h41, h41'⟩, h42⟩ := h
  refine ⟨fun i hi r k hr hir hk => by rw [e r i k (by omega)]; exact hs i hi r k hr hir hk, ⟨?_, ?_, ?_, ?_⟩, fun k hk => ?_, fun k hk => ?_, ?_, fun k hk => ?_, ?_, fun k hk => ?_, ⟨?_, ?_⟩, fun k hk => ?_⟩ <;> rw [e _ _ _ (by decide)]
  · exact h0
  · exact h0'
  · exact h0b
  · exact h0c
  · exact h27 k hk
  · exact h28 k hk
  · exact h29
  · exact h32 k hk
  · exact h39
  · exact h40 k hk
  · exact h41
  · exact h41'
  · exact h42 k hk
section EC56
variable {n : Nat} {lk : Nat → Nat → Nat → Bool} {d : Nat → Nat → Nat → Int32} {o : ev_W}
theorem cn_127 (hn : n = 385) (hl : LKC lk) (h44 : ∀ k, d 44 0 k = 0) : ∃ lk' d', EV (127, 0, [ev_R 44 0], [], 0, 0) (n, lk, d, o) = some (.inl none, (n + 16, lk', d', o)) ∧ LK lk' ∧ (∀ r, r < 44 ∨ 60 < r → lk' r = lk r) ∧ (∀ r, r < 44 ∨ 60 < r → d' r = d r) ∧
    (d' 45 0 0 = 1 ∧ d' 45 0 1 = 1 ∧ d' 45 0 2 = 4 ∧ d' 45 0 3 = 1 ∧ ∀ c, c < 64 → d' 45 0 (4 + 2 * c) = 0) ∧ (∀ j, j < 615 → d' 46 0 j = pb us_s j) ∧ d' 44 0 11 = -1 ∧ d' 44 0 4 = 0 ∧ d' 44 0 25 = 0 ∧ ∀ s, s < 2 → d' 60 0 s = 0 := by
  have q45 : ev_sq 45 0 = 384 := by decide
  have q46 : ev_sq 46 0 = 385 := by decide
  have q47 : ev_sq 47 0 = 386 := by decide
  have q48 : ev_sq 48 0 = 387 := by decide
  have q49 : ev_sq 49 0 = 388 := by decide
  have q50 : ev_sq 50 0 = 389 := by decide
  have q51 : ev_sq 51 0 = 390 := by decide
  have q52 : ev_sq 52 0 = 391 := by decide
  have q53 : ev_sq 53 0 = 392 := by decide
  have q54 : ev_sq 54 0 = 393 := by decide
  have q55 : ev_sq 55 0 = 394 := by decide
  have q56 : ev_sq 56 0 = 395 := by decide
  have q57 : ev_sq 57 0 = 396 := by decide
  have q58 : ev_sq 58 0 = 397 := by decide
  have q59 : ev_sq 59 0 = 398 := by decide
  have q60 : ev_sq 60 0 = 399 := by decide
  have hb := bk_127_0 (r := EV) (n := n) (lk := lk) (d := d) (o := o)
  simp (disch := first | omega | decide) only [q45, q46, q47, q48, q49, q50, q51, q52, q53, q54, q55, q56, q57, q58, q59, q60, cnd, cond_true] at hb
  generalize hX : (ev_lk (ev_nl (ev_lk (ev_nl (ev_lk (ev_nl (ev_lk (ev_nl (ev_lk (ev_nl (ev_lk (ev_nl (ev_lk (ev_nl (ev_lk (ev_nl (ev_lk (ev_nl (ev_lk (ev_nl (ev_lk (ev_nl (ev_lk (ev_nl (ev_lk (ev_nl (ev_lk (ev_nl (ev_lk (ev_nl (ev_lk (ev_nl lk 45 0) 44 0 1 true) 46 0) 44 0 2 true) 47 0) 44 0 3 true) 48 0) 44 0 15 true) 49 0) 44 0 16 true) 50 0) 44 0 17 true) 51 0) 44 0 18 true) 52 0) 44 0 19 true) 53 0) 44 0 20 true) 54 0) 44 0 21 true) 55 0) 44 0 22 true) 56 0) 44 0 23 true) 57 0) 44 0 24 true) 58 0) 44 0 26 true) 59 0) 44 0 27 true) 60 0) 44 0 28 true) = X at hb
  generalize hY : (ev_w3 (ev_w3 (ev_w3 (ev_w3 (ev_w3 (ev_w3 (ev_w3 (ev_w3 (ev_w3 (ev_w3 (ev_w3 (ev_w3 (ev_w3 (ev_u3 (ev_w3 (ev_w3 (ev_w3 d 45 0 (fun _ => 0)) 46 0 (fun _ => 0)) 47 0 (fun _ => 0)) 44 0 11 (-1 : Int32)) 48 0 (fun _ => 0)) 49 0 (fun _ => 0)) 50 0 (fun _ => 0)) 51 0 (fun _ => 0)) 52 0 (fun _ => 0)) 53 0 (fun _ => 0)) 54 0 (fun _ => 0)) 55 0 (fun _ => 0)) 56 0 (fun _ => 0)) 57 0 (fun _ => 0)) 58 0 (fun _ => 0)) 59 0 (fun _ => 0)) 60 0 (fun _ => 0)) = Y at hb
  have x1 : X 44 0 1 = true := by rw [← hX]; simp (disch := omega) only [lkn, nln, lks]
  have x2 : X 44 0 2 = true := by rw [← hX]; simp (disch := omega) only [lkn, nln, lks]
  have x3 : X 44 0 3 = true := by rw [← hX]; simp (disch := omega) only [lkn, nln, lks]
  have x15 : X 44 0 15 = true := by rw [← hX]; simp (disch := omega) only [lkn, nln, lks]
  have x16 : X 44 0 16 = true := by rw [← hX]; simp (disch := omega) only [lkn, nln, lks]
  have x17 : X 44 0 17 = true := by rw [← hX]; simp (disch := omega) only [lkn, nln, lks]
  have x18 : X 44 0 18 = true := by rw [← hX]; simp (disch := omega) only [lkn, nln, lks]
  have x19 : X 44 0 19 = true := by rw [← hX]; simp (disch := omega) only [lkn, nln, lks]
  have x20 : X 44 0 20 = true := by rw [← hX]; simp (disch := omega) only [lkn, nln, lks]
  have x21 : X 44 0 21 = true := by rw [← hX]; simp (disch := omega) only [lkn, nln, lks]
  have x22 : X 44 0 22 = true := by rw [← hX]; simp (disch := omega) only [lkn, nln, lks]
  have x23 : X 44 0 23 = true := by rw [← hX]; simp (disch := omega) only [lkn, nln, lks]
  have x24 : X 44 0 24 = true := by rw [← hX]; simp (disch := omega) only [lkn, nln, lks]
  have x26 : X 44 0 26 = true := by rw [← hX]; simp (disch := omega) only [lkn, nln, lks]
  have x27 : X 44 0 27 = true := by rw [← hX]; simp (disch := omega) only [lkn, nln, lks]
  have x28 : X 44 0 28 = true := by rw [← hX]; simp (disch := omega) only [lkn, nln, lks]
  have hXc : LKC X := LKC_s hl (fun r j k hr => by rw [← hX]; simp (disch := omega) only [lkn, nln])
  have hXl : LK X := LK_of hXc (fun k hk => by
    have : k = 1 ∨ k = 2 ∨ k = 3 ∨ k = 15 ∨ k = 16 ∨ k = 17 ∨ k = 18 ∨ k = 19 ∨ k = 20 ∨ k = 21 ∨ k = 22 ∨ k = 23 ∨ k = 24 ∨ k = 26 ∨ k = 27 ∨ k = 28 := by omega
    rcases this with z | z | z | z | z | z | z | z | z | z | z | z | z | z | z | z <;> subst z <;> assumption)
  have yr : ∀ r, r < 44 ∨ 60 < r → Y r = d r := fun r hr => by
    rw [← hY]
    simp (disch := omega) only [w3n, u3n]
  have y11 : Y 44 0 11 = -1 := by
    rw [← hY]
    simp (disch := omega) only [w3n, u3s]
  have y44 : ∀ k, k ≠ 11 → Y 44 0 k = 0 := fun k hk => by
    rw [← hY]
    simp (disch := omega) only [w3n, u3x, h44]
  obtain ⟨d1, e1, ⟨f1, f2⟩, g48, g49, g13, g14⟩ := em_clears (n := n + 1 + 1 + 1 + 1 + 1 + 1 + 1 + 1 + 1 + 1 + 1 + 1 + 1 + 1 + 1 + 1) (lk := X) (d := Y) (o := o) x15 x16
  have k48 : ∀ k, k < 132 → ev_u3 (ev_u3 (ev_u3 (ev_u3 d1 48 0 0 (1 : Int32)) 48 0 1 (1 : Int32)) 48 0 2 (4 : Int32)) 48 0 3 (1 : Int32) 48 0 k = if k = 3 then 1 else if k = 2 then 4 else if k = 1 then 1 else if k = 0 then 1 else 0 := fun k hk => by
    by_cases a : k = 3
    · subst a
      rw [u3s]
      rfl
    · rw [u3x a, if_neg a]
      by_cases b : k = 2
      · subst b
        rw [u3s]
        rfl
      · rw [u3x b, if_neg b]
        by_cases c : k = 1
        · subst c
          rw [u3s]
          rfl
        · rw [u3x c, if_neg c]
          by_cases e : k = 0
          · subst e
            rw [u3s]
            rfl
          · rw [u3x e, if_neg e, g48 k hk]
  have ko : ∀ r, r ≠ 48 → ev_u3 (ev_u3 (ev_u3 (ev_u3 d1 48 0 0 (1 : Int32)) 48 0 1 (1 : Int32)) 48 0 2 (4 : Int32)) 48 0 3 (1 : Int32) r = d1 r := fun r hr => by rw [u3n hr, u3n hr, u3n hr, u3n hr]
  generalize hd2 : ev_u3 (ev_u3 (ev_u3 (ev_u3 d1 48 0 0 (1 : Int32)) 48 0 1 (1 : Int32)) 48 0 2 (4 : Int32)) 48 0 3 (1 : Int32) = d2 at *
  obtain ⟨d3, e3, kb, b25, b45, b46, b60, b61⟩ := em_begins (n := n + 1 + 1 + 1 + 1 + 1 + 1 + 1 + 1 + 1 + 1 + 1 + 1 + 1 + 1 + 1 + 1) (lk := X) (d := d2) (o := o) hXl (C := 0) (by rw [ko 44 (by decide), g14]; rfl) (by decide)
  simp only [e1, ev_bv, x15, cond_true, hd2, e3] at hb
  refine ⟨X, d3, EV_bk (k := 400) hb, hXl, fun r hr => by
    funext j k
    rw [← hX]
    simp (disch := omega) only [lkn, nln], fun r hr => ?_, ⟨?_, ?_, ?_, ?_, fun c hc => ?_⟩, fun j hj => ?_, ?_, ?_, b25, fun s hs => ?_⟩
  · rw [kb.1 r (by omega) (by omega) (by omega) (by omega), ko r (by omega), f1 r (by omega) (by omega) (by omega), yr r hr]
  · rw [b45 0 (by decide), k48 0 (by decide)]
    rfl
  · rw [b45 1 (by decide), k48 1 (by decide)]
    rfl
  · rw [b45 2 (by decide), k48 2 (by decide)]
    rfl
  · rw [b45 3 (by decide), k48 3 (by decide)]
    rfl
  · rw [b45 _ (by omega), k48 _ (by omega), if_neg (by omega), if_neg (by omega), if_neg (by omega), if_neg (by omega)]
  · rw [b46 j hj]
    show pb (d2 49 0) j = pb us_s j
    unfold pb
    by_cases e : j < 8
    · rw [if_pos e, if_pos e, ko 49 (by decide), g49 j e]
    · rw [if_neg e, if_neg e]
  · rw [kb.2 11 (by decide), ko 44 (by decide), f2 11 (by decide), y11]
  · rw [kb.2 4 (by decide), ko 44 (by decide), f2 4 (by decide), y44 4 (by decide)]
  · match s, hs with
    | 0, _ => exact b60
    | 1, _ => exact b61
end EC56
