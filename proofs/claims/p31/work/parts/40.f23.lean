/-! THE LAW'S OWN MEMORY, 23: how it begins -/
theorem n3_if (q : Nat → Nat → Nat → Nat) (r i k v r' i' k' : Nat) : ev_n3 q r i k v r' i' k' = if r' = r ∧ i' = i ∧ k' = k then v else q r' i' k' := by
  unfold ev_n3 ev_n2 ev_n1
  by_cases h1 : r' = r
  · subst h1
    by_cases h2 : i' = i
    · subst h2
      by_cases h3 : k' = k <;> simp [h3]
    · simp [h2]
  · simp [h1]
theorem n3_ne {q : Nat → Nat → Nat → Nat} {r i k v r' i' k' : Nat} (h : ¬ (r' = r ∧ i' = i ∧ k' = k)) : ev_n3 q r i k v r' i' k' = q r' i' k' := by rw [n3_if, if_neg h]
theorem n3_eq {q : Nat → Nat → Nat → Nat} {r i k v r' i' k' : Nat} (h : r' = r ∧ i' = i ∧ k' = k) : ev_n3 q r i k v r' i' k' = v := by rw [n3_if, if_pos h]
theorem z3_if (q : Nat → Nat → Nat → Nat) (r i r' i' k' : Nat) : ev_z3 q r i r' i' k' = if r' = r ∧ i' = i then 0 else q r' i' k' := by
  unfold ev_z3 ev_z2
  by_cases h1 : r' = r
  · subst h1
    by_cases h2 : i' = i <;> simp [h2]
  · simp [h1]
theorem z3_ne {q : Nat → Nat → Nat → Nat} {r i r' i' k' : Nat} (h : ¬ (r' = r ∧ i' = i)) : ev_z3 q r i r' i' k' = q r' i' k' := by rw [z3_if, if_neg h]
/-- a Bank at i as it is made: eight arrays behind it -/
def bn_t (tt : Nat → Nat) (i : Nat) : Nat → Nat := ev_n1 (ev_n1 (ev_n1 (ev_n1 (ev_n1 (ev_n1 (ev_n1 (ev_n1 tt (i + 1) 205) (i + 2) 205) (i + 3) 205) (i + 4) 205) (i + 5) 205) (i + 6) 205) (i + 7) 204) (i + 8) 206
def bn_e (e : Nat → Nat → Nat → Int32) (i : Nat) : Nat → Nat → Nat → Int32 := ev_w3 (ev_w3 (ev_w3 (ev_w3 (ev_w3 (ev_w3 (ev_w3 (ev_w3 (ev_u3 (ev_u3 e 201 i 6 (-1 : Int32)) 201 i 7 (-1 : Int32)) 205 (i + 1) (fun _ => 0)) 205 (i + 2) (fun _ => 0)) 205 (i + 3) (fun _ => 0)) 205 (i + 4) (fun _ => 0)) 205 (i + 5) (fun _ => 0)) 205 (i + 6) (fun _ => 0)) 204 (i + 7) (fun _ => 0)) 206 (i + 8) (fun _ => 0)
def bn_q (q : Nat → Nat → Nat → Nat) (i : Nat) : Nat → Nat → Nat → Nat := ev_n3 (ev_z3 (ev_n3 (ev_z3 (ev_n3 (ev_z3 (ev_n3 (ev_z3 (ev_n3 (ev_z3 (ev_n3 (ev_z3 (ev_n3 (ev_z3 (ev_n3 (ev_z3 q 205 (i + 1)) 201 i 13 (i + 2)) 205 (i + 2)) 201 i 14 (i + 3)) 205 (i + 3)) 201 i 15 (i + 4)) 205 (i + 4)) 201 i 16 (i + 5)) 205 (i + 5)) 201 i 17 (i + 6)) 205 (i + 6)) 201 i 18 (i + 7)) 204 (i + 7)) 201 i 19 (i + 8)) 206 (i + 8)) 201 i 20 (i + 9)
section BN
variable {lk : Nat → Nat → Nat → Bool} {d : Nat → Nat → Nat → Int32} {tt : Nat → Nat} {e : Nat → Nat → Nat → Int32} {q : Nat → Nat → Nat → Nat} {i : Nat}
theorem bk_new : EV (257, 0, [ev_R 201 i], [], 0, 0) (384, lk, d, i + 1, tt, e, q) = some (.inl none, (384, lk, d, i + 9, bn_t tt i, bn_e e i, bn_q q i)) := EV_bk (bk_257_0 EV i 384 lk d (i + 1) tt e q)
theorem bn_t_n {x : Nat} (h : x ≤ i ∨ i + 9 ≤ x) : bn_t tt i x = tt x := by
  unfold bn_t ev_n1
  rw [if_neg (by omega), if_neg (by omega), if_neg (by omega), if_neg (by omega), if_neg (by omega), if_neg (by omega), if_neg (by omega), if_neg (by omega)]
theorem bn_e_n {r x p : Nat} (h : ¬ (i ≤ x ∧ x < i + 9 ∧ 200 ≤ r ∧ r ≤ 207)) : bn_e e i r x p = e r x p := by
  unfold bn_e
  rw [w3_ne (by omega), w3_ne (by omega), w3_ne (by omega), w3_ne (by omega), w3_ne (by omega), w3_ne (by omega), w3_ne (by omega), w3_ne (by omega), u3_ne (by omega), u3_ne (by omega)]
theorem bn_q_n {r x p : Nat} (h : ¬ (i ≤ x ∧ x < i + 9 ∧ 200 ≤ r ∧ r ≤ 207)) : bn_q q i r x p = q r x p := by
  unfold bn_q
  rw [n3_ne (by omega), z3_ne (by omega), n3_ne (by omega), z3_ne (by omega), n3_ne (by omega), z3_ne (by omega), n3_ne (by omega), z3_ne (by omega), n3_ne (by omega), z3_ne (by omega), n3_ne (by omega), z3_ne (by omega), n3_ne (by omega), z3_ne (by omega), n3_ne (by omega), z3_ne (by omega)]
theorem bn_q_k : bn_q q i 201 i 13 = (i + 1) + 1 ∧ bn_q q i 201 i 14 = (i + 2) + 1 ∧ bn_q q i 201 i 15 = (i + 3) + 1 ∧ bn_q q i 201 i 16 = (i + 4) + 1 ∧ bn_q q i 201 i 17 = (i + 5) + 1 ∧ bn_q q i 201 i 18 = (i + 6) + 1 ∧ bn_q q i 201 i 19 = (i + 7) + 1 ∧ bn_q q i 201 i 20 = (i + 8) + 1 := by
  unfold bn_q
  simp (disch := omega) only [n3_ne, z3_ne, n3_eq, and_self]
theorem bn_e_0 (h0 : ∀ p, e 201 i p = 0) {p : Nat} : bn_e e i 201 i p = if p = 6 ∨ p = 7 then -1 else 0 := by
  unfold bn_e
  rw [w3_ne (by omega), w3_ne (by omega), w3_ne (by omega), w3_ne (by omega), w3_ne (by omega), w3_ne (by omega), w3_ne (by omega), w3_ne (by omega), u3_if, u3_if, h0]
  by_cases c7 : p = 7
  · rw [if_pos ⟨rfl, rfl, c7⟩, if_pos (.inr c7)]
  · rw [if_neg (fun z => c7 z.2.2)]
    by_cases c6 : p = 6
    · rw [if_pos ⟨rfl, rfl, c6⟩, if_pos (.inl c6)]
    · rw [if_neg (fun z => c6 z.2.2), if_neg (by omega)]
theorem bn_e_5 {x p : Nat} (h1 : i + 1 ≤ x) (h2 : x ≤ i + 6) : bn_e e i 205 x p = 0 := by
  unfold bn_e
  rw [w3_ne (by omega), w3_ne (by omega)]
  rcases (show x = i + 1 ∨ x = i + 2 ∨ x = i + 3 ∨ x = i + 4 ∨ x = i + 5 ∨ x = i + 6 by omega) with rfl | rfl | rfl | rfl | rfl | rfl <;> simp (disch := omega) only [w3_ne, w3_eq]
theorem bn_e_4 {p : Nat} : bn_e e i 204 (i + 7) p = 0 := by
  unfold bn_e
  rw [w3_ne (by omega), w3_eq ⟨rfl, rfl⟩]
theorem bn_e_6 {p : Nat} : bn_e e i 206 (i + 8) p = 0 := by
  unfold bn_e
  rw [w3_eq ⟨rfl, rfl⟩]
end BN
