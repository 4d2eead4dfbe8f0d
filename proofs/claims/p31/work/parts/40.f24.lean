/-! THE LAW'S OWN MEMORY, 24: a Memory as it is made -/
def mn_t1 (tt : Nat → Nat) (i : Nat) : Nat → Nat := ev_n1 (ev_n1 (ev_n1 (ev_n1 (ev_n1 (ev_n1 (ev_n1 (ev_n1 (ev_n1 tt (i + 1) 202) (i + 2) 203) (i + 3) 204) (i + 4) 204) (i + 5) 204) (i + 6) 204) (i + 7) 204) (i + 8) 207) (i + 9) 201
def mn_e1 (e : Nat → Nat → Nat → Int32) (i : Nat) : Nat → Nat → Nat → Int32 := ev_w3 (ev_w3 (ev_w3 (ev_w3 (ev_w3 (ev_w3 (ev_w3 (ev_w3 (ev_u3 (ev_u3 (ev_u3 (ev_u3 (ev_u3 (ev_u3 (ev_u3 (ev_w3 (ev_u3 e 200 i 7 (-1 : Int32)) 202 (i + 1) (fun _ => 0)) 202 (i + 1) 0 (1 : Int32)) 202 (i + 1) 1 (4 : Int32)) 202 (i + 1) 2 (0 : Int32)) 202 (i + 1) 3 (99 : Int32)) 202 (i + 1) 4 (1 : Int32)) 202 (i + 1) 5 (20 : Int32)) 202 (i + 1) 6 (2 : Int32)) 203 (i + 2) (fun _ => 0)) 204 (i + 3) (fun _ => 0)) 204 (i + 4) (fun _ => 0)) 204 (i + 5) (fun _ => 0)) 204 (i + 6) (fun _ => 0)) 204 (i + 7) (fun _ => 0)) 207 (i + 8) (fun _ => 0)) 201 (i + 9) (fun _ => 0)
def mn_q1 (q : Nat → Nat → Nat → Nat) (i : Nat) : Nat → Nat → Nat → Nat := ev_z3 (ev_z3 (ev_n3 (ev_z3 (ev_n3 (ev_z3 (ev_n3 (ev_z3 (ev_n3 (ev_z3 (ev_n3 (ev_z3 (ev_n3 (ev_z3 (ev_n3 (ev_z3 q 202 (i + 1)) 200 i 9 (i + 2)) 203 (i + 2)) 200 i 10 (i + 3)) 204 (i + 3)) 200 i 11 (i + 4)) 204 (i + 4)) 200 i 12 (i + 5)) 204 (i + 5)) 200 i 13 (i + 6)) 204 (i + 6)) 200 i 14 (i + 7)) 204 (i + 7)) 200 i 15 (i + 8)) 207 (i + 8)) 201 (i + 9)
def mn_t (tt : Nat → Nat) (i : Nat) : Nat → Nat := bn_t (ev_n1 (bn_t (ev_n1 (bn_t (ev_n1 (bn_t (mn_t1 tt i) (i + 9)) (i + 18) 201) (i + 18)) (i + 27) 201) (i + 27)) (i + 36) 201) (i + 36)
def mn_e (e : Nat → Nat → Nat → Int32) (i : Nat) : Nat → Nat → Nat → Int32 := bn_e (ev_w3 (bn_e (ev_w3 (bn_e (ev_w3 (bn_e (mn_e1 e i) (i + 9)) 201 (i + 18) (fun _ => 0)) (i + 18)) 201 (i + 27) (fun _ => 0)) (i + 27)) 201 (i + 36) (fun _ => 0)) (i + 36)
def mn_q (q : Nat → Nat → Nat → Nat) (i : Nat) : Nat → Nat → Nat → Nat := ev_n3 (ev_n3 (bn_q (ev_z3 (ev_n3 (bn_q (ev_z3 (ev_n3 (bn_q (ev_z3 (ev_n3 (bn_q (mn_q1 q i) (i + 9)) 207 (i + 8) 0 (i + 10)) 201 (i + 18)) (i + 18)) 207 (i + 8) 1 (i + 19)) 201 (i + 27)) (i + 27)) 207 (i + 8) 2 (i + 28)) 201 (i + 36)) (i + 36)) 207 (i + 8) 3 (i + 37)) 200 i 16 (i + 9)
def mn_w (K : Nat) : Int32 := if K = 0 then 1 else if K = 1 then 4 else if K = 3 then 99 else if K = 4 then 1 else if K = 5 then 20 else if K = 6 then 2 else if K = 18 then -1 else if 19 ≤ K ∧ K < 55 ∧ (K % 9 = 7 ∨ K % 9 = 8) then -1 else 0
section MN
variable {lk : Nat → Nat → Nat → Bool} {d : Nat → Nat → Nat → Int32} {tt : Nat → Nat} {e : Nat → Nat → Nat → Int32} {q : Nat → Nat → Nat → Nat} {i : Nat}
theorem mm_new : EV (260, 0, [ev_R 200 i], [], 0, 0) (384, lk, d, i + 1, tt, e, q) = some (.inl none, (384, lk, d, i + 45, mn_t tt i, mn_e e i, mn_q q i)) := by
  refine EV_bk (k := 400) ?_
  rw [bk_260_0]
  simp only [show (Nat.beq 384 384 && true) = true from rfl, cond_true, ev_bv, bk_new]
  rfl
theorem mn_t_n {x : Nat} (h : x ≤ i ∨ i + 45 ≤ x) : mn_t tt i x = tt x := by
  unfold mn_t
  rw [bn_t_n (by omega), ev_n1, if_neg (by omega), bn_t_n (by omega), ev_n1, if_neg (by omega), bn_t_n (by omega), ev_n1, if_neg (by omega), bn_t_n (by omega)]
  unfold mn_t1 ev_n1
  rw [if_neg (by omega), if_neg (by omega), if_neg (by omega), if_neg (by omega), if_neg (by omega), if_neg (by omega), if_neg (by omega), if_neg (by omega), if_neg (by omega)]
theorem mn_e_n {r x p : Nat} (h : ¬ (i ≤ x ∧ x < i + 45 ∧ 200 ≤ r ∧ r ≤ 207)) : mn_e e i r x p = e r x p := by
  unfold mn_e mn_e1
  simp (disch := omega) only [bn_e_n, w3_ne, u3_ne]
theorem mn_q_n {r x p : Nat} (h : ¬ (i ≤ x ∧ x < i + 45 ∧ 200 ≤ r ∧ r ≤ 207)) : mn_q q i r x p = q r x p := by
  unfold mn_q mn_q1
  simp (disch := omega) only [bn_q_n, n3_ne, z3_ne]
theorem mm_LQ : LQ (mn_q q i) i := by
  have hk : ∀ b, b < 4 → ∃ Q, ∀ k, 13 ≤ k → mn_q q i 201 (i + 9 + 9 * b) k = bn_q Q (i + 9 + 9 * b) 201 (i + 9 + 9 * b) k := fun b hb => by
    unfold mn_q
    match b, hb with
    | 0, _ => exact ⟨mn_q1 q i, fun k _ => by rw [show i + 9 + 9 * 0 = i + 9 by omega]; simp (disch := omega) only [n3_ne, z3_ne, bn_q_n (i := i + 36), bn_q_n (i := i + 27), bn_q_n (i := i + 18)]⟩
    | 1, _ => exact ⟨ev_z3 (ev_n3 (bn_q (mn_q1 q i) (i + 9)) 207 (i + 8) 0 (i + 10)) 201 (i + 18), fun k _ => by rw [show i + 9 + 9 * 1 = i + 18 by omega]; simp (disch := omega) only [n3_ne, z3_ne, bn_q_n (i := i + 36), bn_q_n (i := i + 27)]⟩
    | 2, _ => exact ⟨ev_z3 (ev_n3 (bn_q (ev_z3 (ev_n3 (bn_q (mn_q1 q i) (i + 9)) 207 (i + 8) 0 (i + 10)) 201 (i + 18)) (i + 18)) 207 (i + 8) 1 (i + 19)) 201 (i + 27), fun k _ => by rw [show i + 9 + 9 * 2 = i + 27 by omega]; simp (disch := omega) only [n3_ne, z3_ne, bn_q_n (i := i + 36)]⟩
    | 3, _ => exact ⟨ev_z3 (ev_n3 (bn_q (ev_z3 (ev_n3 (bn_q (ev_z3 (ev_n3 (bn_q (mn_q1 q i) (i + 9)) 207 (i + 8) 0 (i + 10)) 201 (i + 18)) (i + 18)) 207 (i + 8) 1 (i + 19)) 201 (i + 27)) (i + 27)) 207 (i + 8) 2 (i + 28)) 201 (i + 36), fun k _ => by rw [show i + 9 + 9 * 3 = i + 36 by omega]; simp (disch := omega) only [n3_ne, z3_ne]⟩
  refine ⟨?_, fun b hb => ?_⟩
  · unfold mn_q mn_q1
    simp (disch := omega) only [bn_q_n, n3_ne, z3_ne, n3_eq, and_self]
  · obtain ⟨Q, hQ⟩ := hk b hb
    rw [hQ 13 (by omega), hQ 14 (by omega), hQ 15 (by omega), hQ 16 (by omega), hQ 17 (by omega), hQ 18 (by omega), hQ 19 (by omega), hQ 20 (by omega)]
    refine ⟨?_, bn_q_k⟩
    unfold mn_q mn_q1
    match b, hb with
    | 0, _ => simp (disch := omega) only [bn_q_n, n3_ne, z3_ne, n3_eq]
    | 1, _ => simp (disch := omega) only [bn_q_n, n3_ne, z3_ne, n3_eq]
    | 2, _ => simp (disch := omega) only [bn_q_n, n3_ne, z3_ne, n3_eq]
    | 3, _ => simp (disch := omega) only [bn_q_n, n3_ne, z3_ne, n3_eq]
theorem mm_LV (h0 : ∀ p, e 200 i p = 0) : LV (mn_e e i) i (fun _ => 0) mn_w (fun _ => 0) := by
  have hk : ∀ b, b < 4 → ∃ E : Nat → Nat → Nat → Int32, (∀ p, E 201 (i + 9 + 9 * b) p = 0) ∧ ∀ r x p, i + 9 + 9 * b ≤ x → x < i + 9 + 9 * b + 9 → mn_e e i r x p = bn_e E (i + 9 + 9 * b) r x p := fun b hb => by
    unfold mn_e
    match b, hb with
    | 0, _ => exact ⟨mn_e1 e i, fun p => by unfold mn_e1; rw [w3_eq ⟨rfl, by omega⟩], fun r x p h1 h2 => by rw [show i + 9 + 9 * 0 = i + 9 by omega] at *; simp (disch := omega) only [w3_ne, bn_e_n (i := i + 36), bn_e_n (i := i + 27), bn_e_n (i := i + 18)]⟩
    | 1, _ => exact ⟨ev_w3 (bn_e (mn_e1 e i) (i + 9)) 201 (i + 18) (fun _ => 0), fun p => by rw [w3_eq ⟨rfl, by omega⟩], fun r x p h1 h2 => by rw [show i + 9 + 9 * 1 = i + 18 by omega] at *; simp (disch := omega) only [w3_ne, bn_e_n (i := i + 36), bn_e_n (i := i + 27)]⟩
    | 2, _ => exact ⟨ev_w3 (bn_e (ev_w3 (bn_e (mn_e1 e i) (i + 9)) 201 (i + 18) (fun _ => 0)) (i + 18)) 201 (i + 27) (fun _ => 0), fun p => by rw [w3_eq ⟨rfl, by omega⟩], fun r x p h1 h2 => by rw [show i + 9 + 9 * 2 = i + 27 by omega] at *; simp (disch := omega) only [w3_ne, bn_e_n (i := i + 36)]⟩
    | 3, _ => exact ⟨ev_w3 (bn_e (ev_w3 (bn_e (ev_w3 (bn_e (mn_e1 e i) (i + 9)) 201 (i + 18) (fun _ => 0)) (i + 18)) 201 (i + 27) (fun _ => 0)) (i + 27)) 201 (i + 36) (fun _ => 0), fun p => by rw [w3_eq ⟨rfl, by omega⟩], fun r x p h1 h2 => by rw [show i + 9 + 9 * 3 = i + 36 by omega]⟩
  intro r x p T K ha
  unfold LA at ha
  rcases ha with ⟨rfl, rfl, ha⟩ | ⟨rfl, rfl, hp, rfl, rfl⟩ | ⟨rfl, rfl, hp, rfl, rfl⟩ | ⟨y, hy, rfl, rfl, hp, rfl, rfl⟩ | ⟨b, hb, rfl, rfl, ha⟩ | ⟨b, hb, rfl, hp, ha⟩ | ⟨b, hb, rfl, hp, rfl, rfl, rfl⟩ | ⟨b, hb, rfl, hp, rfl, rfl, rfl⟩
  · have e1 : mn_e e x 200 x p = if p = 7 then -1 else 0 := by
      unfold mn_e mn_e1
      simp (disch := omega) only [bn_e_n, w3_ne, u3_ne (r := 202)]
      rw [u3_if, h0]
      by_cases c : p = 7
      · rw [if_pos ⟨rfl, rfl, c⟩, if_pos c]
      · rw [if_neg (fun z => c z.2.2), if_neg c]
    rw [e1]
    rcases ha with ⟨h, rfl, rfl⟩ | ⟨rfl, rfl, rfl⟩ | ⟨rfl, rfl, rfl⟩ | ⟨rfl, rfl, rfl⟩ | ⟨rfl, rfl, rfl⟩ | ⟨rfl, rfl, rfl⟩
    · rw [if_neg (by omega)]
      rfl
    all_goals rfl
  · unfold mn_e mn_e1
    simp (disch := omega) only [bn_e_n, w3_ne]
    show _ = mn_w K
    match K, hp with
    | 0, _ => simp (disch := omega) only [u3_ne, u3_eq]; rfl
    | 1, _ => simp (disch := omega) only [u3_ne, u3_eq]; rfl
    | 2, _ => simp (disch := omega) only [u3_ne, u3_eq]; rfl
    | 3, _ => simp (disch := omega) only [u3_ne, u3_eq]; rfl
    | 4, _ => simp (disch := omega) only [u3_ne, u3_eq]; rfl
    | 5, _ => simp (disch := omega) only [u3_ne, u3_eq]; rfl
    | 6, _ => simp (disch := omega) only [u3_ne, u3_eq]; rfl
  · unfold mn_e mn_e1
    simp (disch := omega) only [bn_e_n, w3_ne, w3_eq]
    match p, hp with
    | 0, _ => rfl
    | 1, _ => rfl
    | 2, _ => rfl
    | 3, _ => rfl
    | 4, _ => rfl
    | 5, _ => rfl
  · have ew : mn_w (375 + 6 * p + y) = 0 := by
      unfold mn_w
      repeat rw [if_neg (by omega)]
    show _ = mn_w (375 + 6 * p + y)
    rw [ew]
    unfold mn_e mn_e1
    match y, hy with
    | 0, _ => simp (disch := omega) only [bn_e_n, w3_ne, w3_eq]
    | 1, _ => simp (disch := omega) only [bn_e_n, w3_ne, w3_eq]
    | 2, _ => simp (disch := omega) only [bn_e_n, w3_ne, w3_eq]
    | 3, _ => simp (disch := omega) only [bn_e_n, w3_ne, w3_eq]
    | 4, _ => simp (disch := omega) only [bn_e_n, w3_ne, w3_eq]
  · obtain ⟨E, hz, hE⟩ := hk b hb
    rw [hE _ _ _ (by omega) (by omega), bn_e_0 hz]
    rcases ha with ⟨h8, rfl, rfl⟩ | ⟨h8, h13, rfl, rfl⟩
    · show _ = mn_w (19 + 9 * b + p)
      by_cases c : p = 6 ∨ p = 7
      · rw [if_pos c]
        unfold mn_w
        rw [if_neg (by omega), if_neg (by omega), if_neg (by omega), if_neg (by omega), if_neg (by omega), if_neg (by omega), if_neg (by omega), if_pos (by omega)]
      · rw [if_neg c]
        unfold mn_w
        rw [if_neg (by omega), if_neg (by omega), if_neg (by omega), if_neg (by omega), if_neg (by omega), if_neg (by omega), if_neg (by omega), if_neg (by omega)]
    · rw [if_neg (by omega)]
      rfl
  · obtain ⟨E, hz, hE⟩ := hk b hb
    rcases ha with ⟨rfl, rfl, rfl⟩ | ⟨rfl, rfl, rfl⟩ | ⟨rfl, rfl, rfl⟩ | ⟨rfl, rfl, rfl⟩ | ⟨rfl, rfl, rfl⟩ | ⟨rfl, rfl, rfl⟩ <;> rw [hE _ _ _ (by omega) (by omega), bn_e_5 (by omega) (by omega)]
    · rfl
    · rfl
    all_goals
      show _ = mn_w _
      unfold mn_w
      repeat rw [if_neg (by omega)]
  · obtain ⟨E, hz, hE⟩ := hk b hb
    rw [hE _ _ _ (by omega) (by omega), bn_e_6]
    show _ = mn_w _
    unfold mn_w
    repeat rw [if_neg (by omega)]
  · obtain ⟨E, hz, hE⟩ := hk b hb
    rw [hE _ _ _ (by omega) (by omega), bn_e_4]
    rfl
end MN
