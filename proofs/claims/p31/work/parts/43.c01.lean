/-! THE PROGRAM AGAINST THE REFERENCE, 68: all is made -/
theorem lks {f : Nat → Nat → Nat → Bool} {r i k : Nat} {v : Bool} : ev_lk f r i k v r i k = v := by
  unfold ev_lk
  rw [Nat.beq_refl, Nat.beq_refl, Nat.beq_refl]
  rfl
theorem lkn {f : Nat → Nat → Nat → Bool} {r i k a b c : Nat} {v : Bool} (h : a ≠ r ∨ b ≠ i ∨ c ≠ k) : ev_lk f r i k v a b c = f a b c := by
  unfold ev_lk
  have e : (Nat.beq a r && (Nat.beq b i && Nat.beq c k)) = false := by
    by_cases x : a = r
    · by_cases y : b = i
      · have z : c ≠ k := by omega
        have : Nat.beq c k = false := by
          cases h : Nat.beq c k
          · rfl
          · exact absurd (Nat.eq_of_beq_eq_true h) z
        rw [this, Bool.and_false, Bool.and_false]
      · have : Nat.beq b i = false := by
          cases h : Nat.beq b i
          · rfl
          · exact absurd (Nat.eq_of_beq_eq_true h) y
        rw [this, Bool.false_and, Bool.and_false]
    · have : Nat.beq a r = false := by
        cases h : Nat.beq a r
        · rfl
        · exact absurd (Nat.eq_of_beq_eq_true h) x
      rw [this, Bool.false_and]
  rw [e]
  rfl
theorem nln {f : Nat → Nat → Nat → Bool} {r i a b c : Nat} (h : a ≠ r ∨ b ≠ i) : ev_nl f r i a b c = f a b c := by
  unfold ev_nl
  have e : (Nat.beq a r && Nat.beq b i && ev_ir a c) = false := by
    by_cases x : a = r
    · have y : b ≠ i := by omega
      have : Nat.beq b i = false := by
        cases h : Nat.beq b i
        · rfl
        · exact absurd (Nat.eq_of_beq_eq_true h) y
      rw [this, Bool.and_false, Bool.false_and]
    · have : Nat.beq a r = false := by
        cases h : Nat.beq a r
        · rfl
        · exact absurd (Nat.eq_of_beq_eq_true h) x
      rw [this, Bool.false_and, Bool.false_and]
  rw [e]
  rfl
theorem cnd {i N n m : Nat} {b : Bool} (hi : i < N) (h : n = m) (hb : b = true) : (Nat.blt i N && (Nat.beq n m && b)) = true := by
  subst h
  rw [Nat.beq_refl, hb, show Nat.blt i N = true from Nat.ble_eq.mpr hi]
  rfl
theorem sq_le {r i : Nat} (h : r ≤ 23) : ev_sq r i = ev_sx i + r := by
  unfold ev_sq
  rw [show Nat.ble r 23 = true from Nat.ble_eq.mpr h]
  rfl
/-- only the links of instance i of roles lo to hi have changed -/
def CGL (lo hi i : Nat) (lk lk' : Nat → Nat → Nat → Bool) : Prop := ∀ r j k, r < lo ∨ hi < r ∨ j ≠ i → lk' r j k = lk r j k
theorem CGL_t {lo hi i : Nat} {a b c : Nat → Nat → Nat → Bool} (h : CGL lo hi i a b) (h' : CGL lo hi i b c) : CGL lo hi i a c := fun r j k x => (h' r j k x).trans (h r j k x)
theorem CGL_i {lo hi lo' hi' i : Nat} {a b : Nat → Nat → Nat → Bool} (h : CGL lo hi i a b) (h1 : lo' ≤ lo) (h2 : hi ≤ hi') : CGL lo' hi' i a b := fun r j k x => h r j k (by omega)
theorem CG_w {lo hi r i : Nat} {d : Nat → Nat → Nat → Int32} {f : Nat → Int32} (h1 : lo ≤ r) (h2 : r ≤ hi) : CG lo hi i d (ev_w3 d r i f) := fun r' j h => by
  by_cases e : r' = r
  · subst e
    exact w3j (by omega)
  · rw [w3n e]
section EC53
variable {n : Nat} {lk : Nat → Nat → Nat → Bool} {d : Nat → Nat → Nat → Int32} {o : ev_W}
theorem cn_10 {i : Nat} (hi : i < 15) (hn : n = ev_sx i + 5) : ∃ lk' d', EV (10, 0, [ev_R 3 i], [], 0, 0) (n, lk, d, o) = some (.inl none, (n + 7, lk', d', o)) ∧ CGL 3 10 i lk lk' ∧ (∀ k, k < 7 → lk' 3 i (0 + k) = true) ∧ CG 4 10 i d d' := by
  have hb := bk_10_0 (r := EV) (n := n) (lk := lk) (d := d) (o := o) i
  simp (disch := first | omega | decide) only [sq_le, cnd, Nat.beq_refl, cond_true] at hb
  refine ⟨_, _, EV_bk (k := 400) hb, ?_, ?_, ?_⟩
  · intro r j k h
    simp (disch := omega) only [lkn, nln]
  · intro k hk
    match k, hk with
    | 0, _ => simp (disch := omega) only [lkn, nln, lks]
    | 1, _ => simp (disch := omega) only [lkn, nln, lks]
    | 2, _ => simp (disch := omega) only [lkn, nln, lks]
    | 3, _ => simp (disch := omega) only [lkn, nln, lks]
    | 4, _ => simp (disch := omega) only [lkn, nln, lks]
    | 5, _ => simp (disch := omega) only [lkn, nln, lks]
    | 6, _ => simp (disch := omega) only [lkn, nln, lks]
  · exact CG_t (CG_t (CG_t (CG_t (CG_t (CG_t (CG_w (by decide) (by decide)) (CG_w (by decide) (by decide))) (CG_w (by decide) (by decide))) (CG_w (by decide) (by decide))) (CG_w (by decide) (by decide))) (CG_w (by decide) (by decide))) (CG_w (by decide) (by decide))
theorem cn_52 {i : Nat} (hi : i < 15) (hn : n = ev_sx i + 13) : ∃ lk' d', EV (52, 0, [ev_R 11 i], [], 0, 0) (n, lk, d, o) = some (.inl none, (n + 5, lk', d', o)) ∧ CGL 11 16 i lk lk' ∧ (∀ k, k < 5 → lk' 11 i (0 + k) = true) ∧ CG 12 16 i d d' := by
  have hb := bk_52_0 (r := EV) (n := n) (lk := lk) (d := d) (o := o) i
  simp (disch := first | omega | decide) only [sq_le, cnd, Nat.beq_refl, cond_true] at hb
  refine ⟨_, _, EV_bk (k := 400) hb, ?_, ?_, ?_⟩
  · intro r j k h
    simp (disch := omega) only [lkn, nln]
  · intro k hk
    match k, hk with
    | 0, _ => simp (disch := omega) only [lkn, nln, lks]
    | 1, _ => simp (disch := omega) only [lkn, nln, lks]
    | 2, _ => simp (disch := omega) only [lkn, nln, lks]
    | 3, _ => simp (disch := omega) only [lkn, nln, lks]
    | 4, _ => simp (disch := omega) only [lkn, nln, lks]
  · exact CG_t (CG_t (CG_t (CG_t (CG_w (by decide) (by decide)) (CG_w (by decide) (by decide))) (CG_w (by decide) (by decide))) (CG_w (by decide) (by decide))) (CG_w (by decide) (by decide))
theorem cn_43 {i : Nat} (hi : i < 15) (hn : n = ev_sx i + 19) : ∃ lk' d', EV (43, 0, [ev_R 17 i], [], 0, 0) (n, lk, d, o) = some (.inl none, (n + 6, lk', d', o)) ∧ CGL 17 23 i lk lk' ∧ (∀ k, k < 6 → lk' 17 i (2 + k) = true) ∧ CG 18 23 i d d' := by
  have hb := bk_43_0 (r := EV) (n := n) (lk := lk) (d := d) (o := o) i
  simp (disch := first | omega | decide) only [sq_le, cnd, Nat.beq_refl, cond_true] at hb
  refine ⟨_, _, EV_bk (k := 400) hb, ?_, ?_, ?_⟩
  · intro r j k h
    simp (disch := omega) only [lkn, nln]
  · intro k hk
    match k, hk with
    | 0, _ => simp (disch := omega) only [lkn, nln, lks]
    | 1, _ => simp (disch := omega) only [lkn, nln, lks]
    | 2, _ => simp (disch := omega) only [lkn, nln, lks]
    | 3, _ => simp (disch := omega) only [lkn, nln, lks]
    | 4, _ => simp (disch := omega) only [lkn, nln, lks]
    | 5, _ => simp (disch := omega) only [lkn, nln, lks]
  · exact CG_t (CG_t (CG_t (CG_t (CG_t (CG_w (by decide) (by decide)) (CG_w (by decide) (by decide))) (CG_w (by decide) (by decide))) (CG_w (by decide) (by decide))) (CG_w (by decide) (by decide))) (CG_w (by decide) (by decide))
/-- the links of state i and below -/
def LSI (lk : Nat → Nat → Nat → Bool) (i : Nat) : Prop := ∀ r k, r < 24 → ev_ir r k = true → k < sd_n r → lk r i k = true
theorem ir_b : ∀ r, r < 24 → ∀ k, k < sd_n r → (!ev_ir r k || ((Nat.beq r 0 && (Nat.ble 4 k && Nat.ble k 8)) || ((Nat.beq r 3 && Nat.ble k 6) || ((Nat.beq r 11 && Nat.ble k 4) || (Nat.beq r 17 && (Nat.ble 2 k && Nat.ble k 7)))))) = true := by
  decide +kernel
theorem ir_s {r k : Nat} (hr : r < 24) (hi : ev_ir r k = true) (hk : k < sd_n r) : (r = 0 ∧ 4 ≤ k ∧ k ≤ 8) ∨ (r = 3 ∧ k ≤ 6) ∨ (r = 11 ∧ k ≤ 4) ∨ (r = 17 ∧ 2 ≤ k ∧ k ≤ 7) := by
  have h := ir_b r hr k hk
  rw [hi] at h
  simp only [Bool.not_true, Bool.false_or, Bool.or_eq_true, Bool.and_eq_true, Nat.beq_eq, Nat.ble_eq] at h
  exact h
theorem cn_61 {i : Nat} (hi : i < 15) (hn : n = ev_sx i + 2) : ∃ lk' d', EV (61, 0, [ev_R 0 i], [], 0, 0) (n, lk, d, o) = some (.inl none, (n + 23, lk', d', o)) ∧ CGL 0 23 i lk lk' ∧ LSI lk' i ∧ CG 0 23 i d d' ∧ CS d' i (pb us_s) 0 0 := by
  obtain ⟨l1, d1, e1, g1, t1, f1⟩ := cn_10 (n := n + 1 + 1 + 1) (lk := ev_nl (ev_lk (ev_nl (ev_lk (ev_nl lk 1 i) 0 i 4 true) 2 i) 0 i 5 true) 3 i) (d := ev_w3 (ev_w3 (ev_w3 d 1 i (fun _ => 0)) 2 i (fun _ => 0)) 3 i (fun _ => 0)) (o := o) hi (by omega)
  obtain ⟨l2, d2, e2, g2, t2, f2⟩ := cn_52 (n := n + 1 + 1 + 1 + 7 + 1) (lk := ev_nl (ev_lk l1 0 i 6 true) 11 i) (d := ev_w3 d1 11 i (fun _ => 0)) (o := o) hi (by omega)
  obtain ⟨l3, d3, e3, g3, t3, f3⟩ := cn_43 (n := n + 1 + 1 + 1 + 7 + 1 + 5 + 1) (lk := ev_nl (ev_lk l2 0 i 7 true) 17 i) (d := ev_w3 d2 17 i (fun _ => 0)) (o := o) hi (by omega)
  have h1 : ∀ r j k, r < 3 ∨ 10 < r ∨ j ≠ i → l1 r j k = ev_nl (ev_lk (ev_nl (ev_lk (ev_nl lk 1 i) 0 i 4 true) 2 i) 0 i 5 true) 3 i r j k := g1
  have h2 : ∀ r j k, r < 11 ∨ 16 < r ∨ j ≠ i → l2 r j k = ev_nl (ev_lk l1 0 i 6 true) 11 i r j k := g2
  have h3 : ∀ r j k, r < 17 ∨ 23 < r ∨ j ≠ i → l3 r j k = ev_nl (ev_lk l2 0 i 7 true) 17 i r j k := g3
  have u1 : ∀ k, k < 7 → l1 3 i k = true := fun k hk => by
    have := t1 k hk
    rwa [Nat.zero_add] at this
  have u2 : ∀ k, k < 5 → l2 11 i k = true := fun k hk => by
    have := t2 k hk
    rwa [Nat.zero_add] at this
  have a4 : ev_lk l3 0 i 8 true 0 i 4 = true := by simp (disch := omega) only [lkn, nln, lks, h3, h2, h1]
  have a5 : ev_lk l3 0 i 8 true 0 i 5 = true := by simp (disch := omega) only [lkn, nln, lks, h3, h2, h1]
  have a6 : ev_lk l3 0 i 8 true 0 i 6 = true := by simp (disch := omega) only [lkn, nln, lks, h3, h2, h1]
  have a7 : ev_lk l3 0 i 8 true 0 i 7 = true := by simp (disch := omega) only [lkn, nln, lks, h3, h2, h1]
  have a8 : ev_lk l3 0 i 8 true 0 i 8 = true := lks
  have b3 : ∀ k, k < 7 → ev_lk l3 0 i 8 true 3 i k = true := fun k hk => by simp (disch := omega) only [lkn, nln, lks, h3, h2, u1]
  have b11 : ∀ k, k < 5 → ev_lk l3 0 i 8 true 11 i k = true := fun k hk => by simp (disch := omega) only [lkn, nln, lks, h3, u2]
  have b17 : ∀ k, k < 6 → ev_lk l3 0 i 8 true 17 i (2 + k) = true := fun k hk => by
    rw [lkn (.inl (by decide))]
    exact t3 k hk
  obtain ⟨d4, e4, f4, c4⟩ := ec_reset62 (n := n + 1 + 1 + 1 + 7 + 1 + 5 + 1 + 6) (lk := ev_lk l3 0 i 8 true) (d := d3) (o := o) (i := i) ⟨⟨a4, a5, a6, a7, a8⟩, ⟨b3 0 (by decide), b3 1 (by decide), b3 2 (by decide), b3 3 (by decide), b3 4 (by decide), b3 5 (by decide), b3 6 (by decide)⟩, ⟨b11 0 (by decide), b11 1 (by decide), b11 2 (by decide), b11 3 (by decide), b11 4 (by decide)⟩⟩
  refine ⟨ev_lk l3 0 i 8 true, d4, EV_bk (k := 400) ?_, ?_, ?_, ?_, c4⟩
  · rw [bk_61_0]
    simp (disch := first | omega | decide) only [sq_le, cnd, Nat.beq_refl, cond_true, ev_bv, e1, e2, e3, e4]
  · intro r j k h
    simp (disch := omega) only [lkn, nln, h3, h2, h1]
  · intro r k hr hir hk
    rcases ir_s hr hir hk with ⟨e, x, y⟩ | ⟨e, x⟩ | ⟨e, x⟩ | ⟨e, x, y⟩
    · subst e
      have : k = 4 ∨ k = 5 ∨ k = 6 ∨ k = 7 ∨ k = 8 := by omega
      rcases this with z | z | z | z | z <;> subst z
      · exact a4
      · exact a5
      · exact a6
      · exact a7
      · exact a8
    · subst e
      exact b3 k (by omega)
    · subst e
      exact b11 k (by omega)
    · subst e
      have := b17 (k - 2) (by omega)
      rwa [show 2 + (k - 2) = k by omega] at this
  · exact CG_t (CG_t (CG_t (CG_w (by decide) (by decide)) (CG_w (by decide) (by decide))) (CG_w (by decide) (by decide))) (CG_t (CG_i f1 (by decide) (by decide)) (CG_t (CG_w (by decide) (by decide)) (CG_t (CG_i f2 (by decide) (by decide)) (CG_t (CG_w (by decide) (by decide)) (CG_t (CG_i f3 (by decide) (by decide)) f4)))))
end EC53
