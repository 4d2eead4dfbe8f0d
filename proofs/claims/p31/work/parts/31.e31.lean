/-! THE PROGRAM AGAINST THE REFERENCE, 17: further numbers change alike -/
theorem CS_time {d : Nat → Nat → Nat → Int32} {i : Nat} {w : Nat → Int32} {C K : Nat} {v : Int32} (hs : CS d i w C K) : CS (ev_u3 d 0 i 0 v) i (ev_u1 w 8 v) C K := by
  have hs0 := hs
  obtain ⟨s1, s2, s3, s4, s5, -, -, s8, s9, s10, -⟩ := hs
  refine CS_lo hs0 (fun r hr => by rw [u3n (by omega)]) (fun j hj => u1n (by omega)) ?_ ?_ ?_ ?_ ?_ ?_ ?_ ?_ (fun q _ => by rw [u3n (by decide)])
  · intro j hj
    rw [u3n (by decide), u1n (by omega), s1 j hj]
  · rw [u3x (by decide), u1n (by omega), s2]
  · rw [u3s, u1s]
  · rw [u3x (by decide), u1n (by omega), s4]
  · rw [u3x (by decide), u1n (by omega), s5]
  · intro j hj
    rw [u3n (by decide), u1n (by omega), s8 j hj]
  · intro b hb
    simp only [u3n (r' := 4) (r := 0) (by decide), u3n (r' := 5) (r := 0) (by decide), u3n (r' := 6) (r := 0) (by decide), u3n (r' := 7) (r := 0) (by decide), u3n (r' := 8) (r := 0) (by decide), u3n (r' := 9) (r := 0) (by decide), u3n (r' := 10) (r := 0) (by decide)]
    rw [u1n (j := 19 + 9 * b + 0) (by omega), u1n (j := 19 + 9 * b + 1) (by omega), u1n (j := 19 + 9 * b + 3) (by omega), u1n (j := 19 + 9 * b + 4) (by omega), u1n (j := 19 + 9 * b + 5) (by omega), u1n (j := 19 + 9 * b + 6) (by omega), u1n (j := 19 + 9 * b + 7) (by omega)]
    exact s9 b hb
  · intro c hc
    simp only [u3n (r' := 12) (r := 0) (by decide), u3n (r' := 13) (r := 0) (by decide), u3n (r' := 14) (r := 0) (by decide), u3n (r' := 15) (r := 0) (by decide), u3n (r' := 16) (r := 0) (by decide)]
    rw [u1n (j := 55 + 5 * c + 0) (by omega), u1n (j := 55 + 5 * c + 1) (by omega), u1n (j := 55 + 5 * c + 2) (by omega), u1n (j := 55 + 5 * c + 3) (by omega), u1n (j := 55 + 5 * c + 4) (by omega)]
    exact s10 c hc
theorem CS_trading {d : Nat → Nat → Nat → Int32} {i : Nat} {w : Nat → Int32} {C K : Nat} {v : Int32} (hs : CS d i w C K) : CS (ev_u3 d 0 i 1 v) i (ev_u1 w 7 v) C K := by
  have hs0 := hs
  obtain ⟨s1, s2, s3, s4, s5, -, -, s8, s9, s10, -⟩ := hs
  refine CS_lo hs0 (fun r hr => by rw [u3n (by omega)]) (fun j hj => u1n (by omega)) ?_ ?_ ?_ ?_ ?_ ?_ ?_ ?_ (fun q _ => by rw [u3n (by decide)])
  · intro j hj
    rw [u3n (by decide), u1n (by omega), s1 j hj]
  · rw [u3s, u1s]
  · rw [u3x (by decide), u1n (by omega), s3]
  · rw [u3x (by decide), u1n (by omega), s4]
  · rw [u3x (by decide), u1n (by omega), s5]
  · intro j hj
    rw [u3n (by decide), u1n (by omega), s8 j hj]
  · intro b hb
    simp only [u3n (r' := 4) (r := 0) (by decide), u3n (r' := 5) (r := 0) (by decide), u3n (r' := 6) (r := 0) (by decide), u3n (r' := 7) (r := 0) (by decide), u3n (r' := 8) (r := 0) (by decide), u3n (r' := 9) (r := 0) (by decide), u3n (r' := 10) (r := 0) (by decide)]
    rw [u1n (j := 19 + 9 * b + 0) (by omega), u1n (j := 19 + 9 * b + 1) (by omega), u1n (j := 19 + 9 * b + 3) (by omega), u1n (j := 19 + 9 * b + 4) (by omega), u1n (j := 19 + 9 * b + 5) (by omega), u1n (j := 19 + 9 * b + 6) (by omega), u1n (j := 19 + 9 * b + 7) (by omega)]
    exact s9 b hb
  · intro c hc
    simp only [u3n (r' := 12) (r := 0) (by decide), u3n (r' := 13) (r := 0) (by decide), u3n (r' := 14) (r := 0) (by decide), u3n (r' := 15) (r := 0) (by decide), u3n (r' := 16) (r := 0) (by decide)]
    rw [u1n (j := 55 + 5 * c + 0) (by omega), u1n (j := 55 + 5 * c + 1) (by omega), u1n (j := 55 + 5 * c + 2) (by omega), u1n (j := 55 + 5 * c + 3) (by omega), u1n (j := 55 + 5 * c + 4) (by omega)]
    exact s10 c hc
theorem CS_waits {d : Nat → Nat → Nat → Int32} {i : Nat} {w : Nat → Int32} {C K : Nat} {v : Int32} (hs : CS d i w C K) : CS (ev_u3 d 0 i 2 v) i (ev_u1 w 17 v) C K := by
  have hs0 := hs
  obtain ⟨s1, s2, s3, s4, s5, -, -, s8, s9, s10, -⟩ := hs
  refine CS_lo hs0 (fun r hr => by rw [u3n (by omega)]) (fun j hj => u1n (by omega)) ?_ ?_ ?_ ?_ ?_ ?_ ?_ ?_ (fun q _ => by rw [u3n (by decide)])
  · intro j hj
    rw [u3n (by decide), u1n (by omega), s1 j hj]
  · rw [u3x (by decide), u1n (by omega), s2]
  · rw [u3x (by decide), u1n (by omega), s3]
  · rw [u3s, u1s]
  · rw [u3x (by decide), u1n (by omega), s5]
  · intro j hj
    rw [u3n (by decide), u1n (by omega), s8 j hj]
  · intro b hb
    simp only [u3n (r' := 4) (r := 0) (by decide), u3n (r' := 5) (r := 0) (by decide), u3n (r' := 6) (r := 0) (by decide), u3n (r' := 7) (r := 0) (by decide), u3n (r' := 8) (r := 0) (by decide), u3n (r' := 9) (r := 0) (by decide), u3n (r' := 10) (r := 0) (by decide)]
    rw [u1n (j := 19 + 9 * b + 0) (by omega), u1n (j := 19 + 9 * b + 1) (by omega), u1n (j := 19 + 9 * b + 3) (by omega), u1n (j := 19 + 9 * b + 4) (by omega), u1n (j := 19 + 9 * b + 5) (by omega), u1n (j := 19 + 9 * b + 6) (by omega), u1n (j := 19 + 9 * b + 7) (by omega)]
    exact s9 b hb
  · intro c hc
    simp only [u3n (r' := 12) (r := 0) (by decide), u3n (r' := 13) (r := 0) (by decide), u3n (r' := 14) (r := 0) (by decide), u3n (r' := 15) (r := 0) (by decide), u3n (r' := 16) (r := 0) (by decide)]
    rw [u1n (j := 55 + 5 * c + 0) (by omega), u1n (j := 55 + 5 * c + 1) (by omega), u1n (j := 55 + 5 * c + 2) (by omega), u1n (j := 55 + 5 * c + 3) (by omega), u1n (j := 55 + 5 * c + 4) (by omega)]
    exact s10 c hc
theorem CS_longest {d : Nat → Nat → Nat → Int32} {i : Nat} {w : Nat → Int32} {C K : Nat} {v : Int32} (hs : CS d i w C K) : CS (ev_u3 d 0 i 3 v) i (ev_u1 w 18 v) C K := by
  have hs0 := hs
  obtain ⟨s1, s2, s3, s4, s5, -, -, s8, s9, s10, -⟩ := hs
  refine CS_lo hs0 (fun r hr => by rw [u3n (by omega)]) (fun j hj => u1n (by omega)) ?_ ?_ ?_ ?_ ?_ ?_ ?_ ?_ (fun q _ => by rw [u3n (by decide)])
  · intro j hj
    rw [u3n (by decide), u1n (by omega), s1 j hj]
  · rw [u3x (by decide), u1n (by omega), s2]
  · rw [u3x (by decide), u1n (by omega), s3]
  · rw [u3x (by decide), u1n (by omega), s4]
  · rw [u3s, u1s]
  · intro j hj
    rw [u3n (by decide), u1n (by omega), s8 j hj]
  · intro b hb
    simp only [u3n (r' := 4) (r := 0) (by decide), u3n (r' := 5) (r := 0) (by decide), u3n (r' := 6) (r := 0) (by decide), u3n (r' := 7) (r := 0) (by decide), u3n (r' := 8) (r := 0) (by decide), u3n (r' := 9) (r := 0) (by decide), u3n (r' := 10) (r := 0) (by decide)]
    rw [u1n (j := 19 + 9 * b + 0) (by omega), u1n (j := 19 + 9 * b + 1) (by omega), u1n (j := 19 + 9 * b + 3) (by omega), u1n (j := 19 + 9 * b + 4) (by omega), u1n (j := 19 + 9 * b + 5) (by omega), u1n (j := 19 + 9 * b + 6) (by omega), u1n (j := 19 + 9 * b + 7) (by omega)]
    exact s9 b hb
  · intro c hc
    simp only [u3n (r' := 12) (r := 0) (by decide), u3n (r' := 13) (r := 0) (by decide), u3n (r' := 14) (r := 0) (by decide), u3n (r' := 15) (r := 0) (by decide), u3n (r' := 16) (r := 0) (by decide)]
    rw [u1n (j := 55 + 5 * c + 0) (by omega), u1n (j := 55 + 5 * c + 1) (by omega), u1n (j := 55 + 5 * c + 2) (by omega), u1n (j := 55 + 5 * c + 3) (by omega), u1n (j := 55 + 5 * c + 4) (by omega)]
    exact s10 c hc
theorem CS_setting {d : Nat → Nat → Nat → Int32} {i : Nat} {w : Nat → Int32} {C K k : Nat} {v : Int32} (hs : CS d i w C K) (hk : k < 7) : CS (ev_u3 d 1 i k v) i (ev_u1 w k v) C K := by
  have hs0 := hs
  obtain ⟨s1, s2, s3, s4, s5, -, -, s8, s9, s10, -⟩ := hs
  refine CS_lo hs0 (fun r hr => by rw [u3n (by omega)]) (fun j hj => u1n (by omega)) ?_ ?_ ?_ ?_ ?_ ?_ ?_ ?_ (fun q _ => by rw [u3n (by decide)])
  · intro j hj
    by_cases e : j = k
    · subst e
      rw [u3s, u1s]
    · rw [u3x e, u1n e, s1 j hj]
  · rw [u3n (by decide), u1n (by omega), s2]
  · rw [u3n (by decide), u1n (by omega), s3]
  · rw [u3n (by decide), u1n (by omega), s4]
  · rw [u3n (by decide), u1n (by omega), s5]
  · intro j hj
    rw [u3n (by decide), u1n (by omega), s8 j hj]
  · intro b hb
    simp only [u3n (r' := 4) (r := 1) (by decide), u3n (r' := 5) (r := 1) (by decide), u3n (r' := 6) (r := 1) (by decide), u3n (r' := 7) (r := 1) (by decide), u3n (r' := 8) (r := 1) (by decide), u3n (r' := 9) (r := 1) (by decide), u3n (r' := 10) (r := 1) (by decide)]
    rw [u1n (j := 19 + 9 * b + 0) (by omega), u1n (j := 19 + 9 * b + 1) (by omega), u1n (j := 19 + 9 * b + 3) (by omega), u1n (j := 19 + 9 * b + 4) (by omega), u1n (j := 19 + 9 * b + 5) (by omega), u1n (j := 19 + 9 * b + 6) (by omega), u1n (j := 19 + 9 * b + 7) (by omega)]
    exact s9 b hb
  · intro c hc
    simp only [u3n (r' := 12) (r := 1) (by decide), u3n (r' := 13) (r := 1) (by decide), u3n (r' := 14) (r := 1) (by decide), u3n (r' := 15) (r := 1) (by decide), u3n (r' := 16) (r := 1) (by decide)]
    rw [u1n (j := 55 + 5 * c + 0) (by omega), u1n (j := 55 + 5 * c + 1) (by omega), u1n (j := 55 + 5 * c + 2) (by omega), u1n (j := 55 + 5 * c + 3) (by omega), u1n (j := 55 + 5 * c + 4) (by omega)]
    exact s10 c hc
/-- a number of a request that isn't its order changes -/
theorem CS_rq {d : Nat → Nat → Nat → Int32} {i : Nat} {w : Nat → Int32} {C K q r x : Nat} {v : Int32} (hs : CS d i w C K) (hq : q < C) (hr : r = 18 + x) (hx : x < 5) (h3 : x = 3 → w (375 + 6 * q + 3) ≠ 0 ∧ v ≠ 0) : CS (ev_u3 d r i q v) i (ev_u1 w (375 + 6 * q + x) v) C K := by
  obtain ⟨s1, s2, s3, s4, s5, s6, s7, s8, s9, s10, s11, ⟨w9, w10, hKm, h40⟩, hi1, hi2⟩ := hs
  have lo : ∀ k, k < 375 → ev_u1 w (375 + 6 * q + x) v k = w k := fun k hk => u1n (by omega)
  have ph : ∀ p, (ev_u1 w (375 + 6 * q + x) v (375 + 6 * p + 3) = 0 ↔ w (375 + 6 * p + 3) = 0) := fun p => by
    by_cases e : p = q ∧ x = 3
    · obtain ⟨e1, e2⟩ := e
      subst e1
      subst e2
      rw [u1s]
      exact ⟨fun z => absurd z (h3 rfl).2, fun z => absurd z (h3 rfl).1⟩
    · rw [u1n (by omega)]
  refine ⟨?_, ?_, ?_, ?_, ?_, ?_, ?_, ?_, ?_, ?_, ?_, ⟨?_, ?_, ?_, h40⟩, ?_, ?_⟩
  · intro k hk
    rw [u3n (by omega), lo k (by omega), s1 k hk]
  · rw [u3n (by omega), lo 7 (by omega), s2]
  · rw [u3n (by omega), lo 8 (by omega), s3]
  · rw [u3n (by omega), lo 17 (by omega), s4]
  · rw [u3n (by omega), lo 18 (by omega), s5]
  · rw [u3n (by omega), lo 9 (by omega), s6]
  · rw [u3n (by omega), lo 10 (by omega), s7]
  · intro k hk
    rw [u3n (by omega), lo (11 + k) (by omega), s8 k hk]
  · intro b hb
    rw [u3n (r' := 4) (by omega), u3n (r' := 5) (by omega), u3n (r' := 6) (by omega), u3n (r' := 7) (by omega), u3n (r' := 8) (by omega), u3n (r' := 9) (by omega), u3n (r' := 10) (by omega)]
    rw [lo (19 + 9 * b + 0) (by omega), lo (19 + 9 * b + 1) (by omega), lo (19 + 9 * b + 3) (by omega), lo (19 + 9 * b + 4) (by omega), lo (19 + 9 * b + 5) (by omega), lo (19 + 9 * b + 6) (by omega), lo (19 + 9 * b + 7) (by omega)]
    exact s9 b hb
  · intro c hc
    rw [u3n (r' := 12) (by omega), u3n (r' := 13) (by omega), u3n (r' := 14) (by omega), u3n (r' := 15) (by omega), u3n (r' := 16) (by omega)]
    rw [lo (55 + 5 * c + 0) (by omega), lo (55 + 5 * c + 1) (by omega), lo (55 + 5 * c + 2) (by omega), lo (55 + 5 * c + 3) (by omega), lo (55 + 5 * c + 4) (by omega)]
    exact s10 c hc
  · intro p hp
    obtain ⟨a0, a1, a2, a3, a4⟩ := s11 p hp
    have key : ∀ y, y < 5 → d (18 + y) i p = w (375 + 6 * p + y) → ev_u3 d r i q v (18 + y) i p = ev_u1 w (375 + 6 * q + x) v (375 + 6 * p + y) := fun y hy a => by
      by_cases e : y = x
      · subst e
        subst hr
        by_cases e2 : p = q
        · subst e2
          rw [u3s, u1s]
        · rw [u3x e2, u1n (by omega), a]
      · rw [u3n (by omega), u1n (by omega), a]
    exact ⟨key 0 (by omega) a0, key 1 (by omega) a1, key 2 (by omega) a2, key 3 (by omega) a3, key 4 (by omega) a4⟩
  · rw [lo 9 (by omega), w9]
  · rw [lo 10 (by omega), w10]
  · rw [ms_cm_c (fun p _ => ph p), hKm]
  · intro p hp hne
    obtain ⟨y, hy, y1, y2⟩ := hi1 p hp (fun z => hne ((ph p).mpr z))
    refine ⟨y, hy, ?_, ?_⟩
    · rw [u1n (by omega), y1]
    · rw [u3n (by omega), y2]
  · intro p hp
    obtain ⟨y, hy, y0, y1, y2⟩ := hi2 p hp
    refine ⟨y, hy, fun z => y0 ((ph y).mp z), ?_, ?_⟩
    · rw [u1n (by omega), y1]
    · rw [u3n (by omega), y2]
