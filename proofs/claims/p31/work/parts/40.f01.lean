/-! THE LAW'S OWN MEMORY, 1: where its numbers lie -/
theorem ev_lq_s (j : Nat) (k : Nat → ev_T) : ev_lq (j + 1) k = k j := rfl
theorem u3_if (e : Nat → Nat → Nat → Int32) (r i k : Nat) (v : Int32) (r' i' k' : Nat) : ev_u3 e r i k v r' i' k' = if r' = r ∧ i' = i ∧ k' = k then v else e r' i' k' := by
  unfold ev_u3 ev_u2 ev_u1
  by_cases h1 : r' = r
  · subst h1
    by_cases h2 : i' = i
    · subst h2
      by_cases h3 : k' = k <;> simp [h3]
    · simp [h2]
  · simp [h1]
theorem w3_if (e : Nat → Nat → Nat → Int32) (r i : Nat) (f : Nat → Int32) (r' i' k' : Nat) : ev_w3 e r i f r' i' k' = if r' = r ∧ i' = i then f k' else e r' i' k' := by
  unfold ev_w3 ev_w2
  by_cases h1 : r' = r
  · subst h1
    by_cases h2 : i' = i <;> simp [h2]
  · simp [h1]
theorem u3_ne {e : Nat → Nat → Nat → Int32} {r i k : Nat} {v : Int32} {r' i' k' : Nat} (h : ¬ (r' = r ∧ i' = i ∧ k' = k)) : ev_u3 e r i k v r' i' k' = e r' i' k' := by rw [u3_if, if_neg h]
theorem u3_eq {e : Nat → Nat → Nat → Int32} {r i k : Nat} {v : Int32} {r' i' k' : Nat} (h : r' = r ∧ i' = i ∧ k' = k) : ev_u3 e r i k v r' i' k' = v := by rw [u3_if, if_pos h]
theorem w3_ne {e : Nat → Nat → Nat → Int32} {r i : Nat} {f : Nat → Int32} {r' i' k' : Nat} (h : ¬ (r' = r ∧ i' = i)) : ev_w3 e r i f r' i' k' = e r' i' k' := by rw [w3_if, if_neg h]
theorem w3_eq {e : Nat → Nat → Nat → Int32} {r i : Nat} {f : Nat → Int32} {r' i' k' : Nat} (h : r' = r ∧ i' = i) : ev_w3 e r i f r' i' k' = f k' := by rw [w3_if, if_pos h]
/-- the links of a Memory that begins at i -/
def LQ (q : Nat → Nat → Nat → Nat) (i : Nat) : Prop :=
  (q 200 i 9 = (i + 1) + 1 ∧ q 200 i 10 = (i + 2) + 1 ∧ q 200 i 11 = (i + 3) + 1 ∧ q 200 i 12 = (i + 4) + 1 ∧ q 200 i 13 = (i + 5) + 1 ∧ q 200 i 14 = (i + 6) + 1 ∧ q 200 i 15 = (i + 7) + 1 ∧ q 200 i 16 = (i + 8) + 1) ∧
  ∀ b, b < 4 → q 207 (i + 8) b = (i + 9 + 9 * b) + 1 ∧ q 201 (i + 9 + 9 * b) 13 = (i + 9 + 9 * b + 1) + 1 ∧ q 201 (i + 9 + 9 * b) 14 = (i + 9 + 9 * b + 2) + 1 ∧ q 201 (i + 9 + 9 * b) 15 = (i + 9 + 9 * b + 3) + 1 ∧ q 201 (i + 9 + 9 * b) 16 = (i + 9 + 9 * b + 4) + 1 ∧ q 201 (i + 9 + 9 * b) 17 = (i + 9 + 9 * b + 5) + 1 ∧ q 201 (i + 9 + 9 * b) 18 = (i + 9 + 9 * b + 6) + 1 ∧ q 201 (i + 9 + 9 * b) 19 = (i + 9 + 9 * b + 7) + 1 ∧ q 201 (i + 9 + 9 * b) 20 = (i + 9 + 9 * b + 8) + 1
/-- the place p of the thing (r, j) is the number K of a vector: 0 now, 1 told, 2 the law's own -/
def LA (i r j p T K : Nat) : Prop :=
  (r = 200 ∧ j = i ∧ ((p < 4 ∧ T = 1 ∧ K = p) ∨ (p = 4 ∧ T = 0 ∧ K = 8) ∨ (p = 5 ∧ T = 0 ∧ K = 9) ∨ (p = 6 ∧ T = 0 ∧ K = 17) ∨ (p = 7 ∧ T = 0 ∧ K = 18) ∨ (p = 8 ∧ T = 0 ∧ K = 7))) ∨
  (r = 202 ∧ j = i + 1 ∧ p < 7 ∧ T = 0 ∧ K = p) ∨
  (r = 203 ∧ j = i + 2 ∧ p < 6 ∧ T = 0 ∧ K = 11 + p) ∨
  (∃ x, x < 5 ∧ r = 204 ∧ j = i + 3 + x ∧ p < 40 ∧ T = 0 ∧ K = 375 + 6 * p + x) ∨
  (∃ b, b < 4 ∧ r = 201 ∧ j = i + 9 + 9 * b ∧ ((p < 8 ∧ T = 0 ∧ K = 19 + 9 * b + p) ∨ (8 ≤ p ∧ p < 13 ∧ T = 2 ∧ K = 5 * b + (p - 8)))) ∨
  (∃ b, b < 4 ∧ r = 205 ∧ p < 16 ∧ ((j = i + 9 + 9 * b + 1 ∧ T = 1 ∧ K = 4 + 2 * (16 * b + p)) ∨ (j = i + 9 + 9 * b + 2 ∧ T = 1 ∧ K = 4 + 2 * (16 * b + p) + 1) ∨ (j = i + 9 + 9 * b + 3 ∧ T = 0 ∧ K = 55 + 5 * (16 * b + p) + 0) ∨ (j = i + 9 + 9 * b + 4 ∧ T = 0 ∧ K = 55 + 5 * (16 * b + p) + 2) ∨ (j = i + 9 + 9 * b + 5 ∧ T = 0 ∧ K = 55 + 5 * (16 * b + p) + 3) ∨ (j = i + 9 + 9 * b + 6 ∧ T = 0 ∧ K = 55 + 5 * (16 * b + p) + 4))) ∨
  (∃ b, b < 4 ∧ r = 206 ∧ p < 16 ∧ j = i + 9 + 9 * b + 8 ∧ T = 0 ∧ K = 55 + 5 * (16 * b + p) + 1) ∨
  (∃ b, b < 4 ∧ r = 204 ∧ p < 40 ∧ j = i + 9 + 9 * b + 7 ∧ T = 2 ∧ K = 100 + 40 * b + p)
theorem LA_inj {i r j p T K r' j' p' T' K' : Nat} (ha : LA i r j p T K) (hb : LA i r' j' p' T' K') : (r' = r ∧ j' = j ∧ p' = p) ↔ (T' = T ∧ K' = K) := by
  unfold LA at ha hb
  rcases ha with ha | ha | ha | ⟨x, ha⟩ | ⟨b, ha⟩ | ⟨b, ha⟩ | ⟨b, ha⟩ | ⟨b, ha⟩ <;> rcases hb with hb | hb | hb | ⟨x', hb⟩ | ⟨b', hb⟩ | ⟨b', hb⟩ | ⟨b', hb⟩ | ⟨b', hb⟩ <;> omega
theorem LA_bd {i r j p T K : Nat} (ha : LA i r j p T K) : i ≤ j ∧ j < i + 45 ∧ 200 ≤ r ∧ r ≤ 206 := by
  unfold LA at ha
  rcases ha with ha | ha | ha | ⟨x, ha⟩ | ⟨b, ha⟩ | ⟨b, ha⟩ | ⟨b, ha⟩ | ⟨b, ha⟩ <;> omega
def LZ (t w u : Nat → Int32) (T : Nat) : Nat → Int32 := match T with
  | 0 => w
  | 1 => t
  | _ => u
/-- the Memory at i holds now (w), told (t) and the rest (u) -/
def LV (e : Nat → Nat → Nat → Int32) (i : Nat) (t w u : Nat → Int32) : Prop := ∀ r j p T K, LA i r j p T K → e r j p = LZ t w u T K
section LA1
variable {i : Nat}
theorem la_f {k : Nat} (h : k < 4) : LA i 200 i k 1 k := Or.inl ⟨rfl, rfl, by omega⟩
theorem la_time : LA i 200 i 4 0 8 := Or.inl ⟨rfl, rfl, by omega⟩
theorem la_reqs : LA i 200 i 5 0 9 := Or.inl ⟨rfl, rfl, by omega⟩
theorem la_waits : LA i 200 i 6 0 17 := Or.inl ⟨rfl, rfl, by omega⟩
theorem la_long : LA i 200 i 7 0 18 := Or.inl ⟨rfl, rfl, by omega⟩
theorem la_trad : LA i 200 i 8 0 7 := Or.inl ⟨rfl, rfl, by omega⟩
theorem la_set {k : Nat} (h : k < 7) : LA i 202 (i + 1) k 0 k := Or.inr (Or.inl ⟨rfl, rfl, h, rfl, rfl⟩)
theorem la_acc {k : Nat} (h : k < 6) : LA i 203 (i + 2) k 0 (11 + k) := Or.inr (Or.inr (Or.inl ⟨rfl, rfl, h, rfl, rfl⟩))
theorem la_rq {x q : Nat} (hx : x < 5) (h : q < 40) : LA i 204 (i + 3 + x) q 0 (375 + 6 * q + x) := Or.inr (Or.inr (Or.inr (Or.inl ⟨x, hx, rfl, rfl, h, rfl, rfl⟩)))
theorem la_bk {b k : Nat} (hb : b < 4) (h : k < 8) : LA i 201 (i + 9 + 9 * b) k 0 (19 + 9 * b + k) := Or.inr (Or.inr (Or.inr (Or.inr (Or.inl ⟨b, hb, rfl, rfl, Or.inl ⟨h, rfl, rfl⟩⟩))))
theorem la_bx {b k : Nat} (hb : b < 4) (h : k < 5) : LA i 201 (i + 9 + 9 * b) (8 + k) 2 (5 * b + k) := Or.inr (Or.inr (Or.inr (Or.inr (Or.inl ⟨b, hb, rfl, rfl, Or.inr ⟨by omega, by omega, rfl, by omega⟩⟩))))
theorem la_own {b r : Nat} (hb : b < 4) (h : r < 16) : LA i 205 (i + 9 + 9 * b + 1) r 1 (4 + 2 * (16 * b + r)) := Or.inr (Or.inr (Or.inr (Or.inr (Or.inr (Or.inl ⟨b, hb, rfl, h, Or.inl ⟨rfl, rfl, rfl⟩⟩)))))
theorem la_from {b r : Nat} (hb : b < 4) (h : r < 16) : LA i 205 (i + 9 + 9 * b + 2) r 1 (4 + 2 * (16 * b + r) + 1) := Or.inr (Or.inr (Or.inr (Or.inr (Or.inr (Or.inl ⟨b, hb, rfl, h, Or.inr (Or.inl ⟨rfl, rfl, rfl⟩)⟩)))))
theorem la_age {b r : Nat} (hb : b < 4) (h : r < 16) : LA i 205 (i + 9 + 9 * b + 3) r 0 (55 + 5 * (16 * b + r) + 0) := Or.inr (Or.inr (Or.inr (Or.inr (Or.inr (Or.inl ⟨b, hb, rfl, h, Or.inr (Or.inr (Or.inl ⟨rfl, rfl, rfl⟩))⟩)))))
theorem la_rfr {b r : Nat} (hb : b < 4) (h : r < 16) : LA i 205 (i + 9 + 9 * b + 4) r 0 (55 + 5 * (16 * b + r) + 2) := Or.inr (Or.inr (Or.inr (Or.inr (Or.inr (Or.inl ⟨b, hb, rfl, h, Or.inr (Or.inr (Or.inr (Or.inl ⟨rfl, rfl, rfl⟩)))⟩)))))
theorem la_acs {b r : Nat} (hb : b < 4) (h : r < 16) : LA i 205 (i + 9 + 9 * b + 5) r 0 (55 + 5 * (16 * b + r) + 3) := Or.inr (Or.inr (Or.inr (Or.inr (Or.inr (Or.inl ⟨b, hb, rfl, h, Or.inr (Or.inr (Or.inr (Or.inr (Or.inl ⟨rfl, rfl, rfl⟩))))⟩)))))
theorem la_lss {b r : Nat} (hb : b < 4) (h : r < 16) : LA i 205 (i + 9 + 9 * b + 6) r 0 (55 + 5 * (16 * b + r) + 4) := Or.inr (Or.inr (Or.inr (Or.inr (Or.inr (Or.inl ⟨b, hb, rfl, h, Or.inr (Or.inr (Or.inr (Or.inr (Or.inr ⟨rfl, rfl, rfl⟩))))⟩)))))
theorem la_lost {b r : Nat} (hb : b < 4) (h : r < 16) : LA i 206 (i + 9 + 9 * b + 8) r 0 (55 + 5 * (16 * b + r) + 1) := Or.inr (Or.inr (Or.inr (Or.inr (Or.inr (Or.inr (Or.inl ⟨b, hb, rfl, h, rfl, rfl, rfl⟩))))))
theorem la_qu {b p : Nat} (hb : b < 4) (h : p < 40) : LA i 204 (i + 9 + 9 * b + 7) p 2 (100 + 40 * b + p) := Or.inr (Or.inr (Or.inr (Or.inr (Or.inr (Or.inr (Or.inr ⟨b, hb, rfl, h, rfl, rfl, rfl⟩))))))
end LA1
section LA2
variable {e e' : Nat → Nat → Nat → Int32} {i r j p K : Nat} {t w u : Nat → Int32} {v : Int32}
theorem LV.put0 (h : LV e i t w u) (ha : LA i r j p 0 K) : LV (ev_u3 e r j p v) i t (ev_u1 w K v) u := fun r' j' p' T' K' hb => by
  have hi := LA_inj ha hb
  have h0 := h _ _ _ _ _ hb
  rw [u3_if]
  by_cases c : r' = r ∧ j' = j ∧ p' = p
  · rw [if_pos c]
    obtain ⟨rfl, rfl⟩ := hi.mp c
    exact (u1s w _ v).symm
  · rw [if_neg c, h0]
    match T', hi with
    | 0, hi => exact (u1n (fun z => c (hi.mpr ⟨rfl, z⟩))).symm
    | 1, _ => rfl
    | _ + 2, _ => rfl
theorem LV.put1 (h : LV e i t w u) (ha : LA i r j p 1 K) : LV (ev_u3 e r j p v) i (ev_u1 t K v) w u := fun r' j' p' T' K' hb => by
  have hi := LA_inj ha hb
  have h0 := h _ _ _ _ _ hb
  rw [u3_if]
  by_cases c : r' = r ∧ j' = j ∧ p' = p
  · rw [if_pos c]
    obtain ⟨rfl, rfl⟩ := hi.mp c
    exact (u1s t _ v).symm
  · rw [if_neg c, h0]
    match T', hi with
    | 0, _ => rfl
    | 1, hi => exact (u1n (fun z => c (hi.mpr ⟨rfl, z⟩))).symm
    | _ + 2, _ => rfl
theorem LV.put2 (h : LV e i t w u) (ha : LA i r j p 2 K) : LV (ev_u3 e r j p v) i t w (ev_u1 u K v) := fun r' j' p' T' K' hb => by
  have hi := LA_inj ha hb
  have h0 := h _ _ _ _ _ hb
  rw [u3_if]
  by_cases c : r' = r ∧ j' = j ∧ p' = p
  · rw [if_pos c]
    obtain ⟨rfl, rfl⟩ := hi.mp c
    exact (u1s u _ v).symm
  · rw [if_neg c, h0]
    match T', hi, hb with
    | 0, _, _ => rfl
    | 1, _, _ => rfl
    | 2, hi, _ => exact (u1n (fun z => c (hi.mpr ⟨rfl, z⟩))).symm
    | k + 3, _, hb => exact absurd hb (by unfold LA; rintro (z | z | z | ⟨x, z⟩ | ⟨b, z⟩ | ⟨b, z⟩ | ⟨b, z⟩ | ⟨b, z⟩) <;> omega)
/-- what is written elsewhere -/
theorem LV.off (h : LV e i t w u) (hf : ∀ r j p, i ≤ j → j < i + 45 → e' r j p = e r j p) : LV e' i t w u := fun r j p T K ha => by
  obtain ⟨h1, h2, -⟩ := LA_bd ha
  rw [hf r j p h1 h2]
  exact h _ _ _ _ _ ha
theorem LV.congr {t' w' u' : Nat → Int32} (h : LV e i t w u) (hf : ∀ r j p T K, LA i r j p T K → LZ t' w' u' T K = LZ t w u T K) : LV e i t' w' u' := fun r j p T K ha => (h _ _ _ _ _ ha).trans (hf _ _ _ _ _ ha).symm
/-- an order is nowhere -/
theorem LV.free {K : Nat} (h : LV e i t w u) (hk : K = 10 ∨ ∃ q, K = 375 + 6 * q + 5) : LV e i t (ev_u1 w K v) u := h.congr fun r j p T K' ha => by
  match T, ha with
  | 0, ha =>
    refine u1n fun z => ?_
    subst z
    unfold LA at ha
    rcases hk with hk | ⟨q, hk⟩ <;> rcases ha with ha | ha | ha | ⟨x, ha⟩ | ⟨b, ha⟩ | ⟨b, ha⟩ | ⟨b, ha⟩ | ⟨b, ha⟩ <;> omega
  | 1, _ => rfl
  | _ + 2, _ => rfl
end LA2
/-- nothing but the Memory at i was written -/
def LF (e e' : Nat → Nat → Nat → Int32) (i : Nat) : Prop := ∀ r j p, ¬ (i ≤ j ∧ j < i + 45 ∧ 200 ≤ r ∧ r ≤ 206) → e' r j p = e r j p
theorem LF.rf (e : Nat → Nat → Nat → Int32) (i : Nat) : LF e e i := fun _ _ _ _ => rfl
theorem LF.tr {e e' e'' : Nat → Nat → Nat → Int32} {i : Nat} (h : LF e e' i) (h' : LF e' e'' i) : LF e e'' i := fun r j p c => (h' r j p c).trans (h r j p c)
theorem LF.put {e e' : Nat → Nat → Nat → Int32} {i r j p T K : Nat} {v : Int32} (h : LF e e' i) (ha : LA i r j p T K) : LF e (ev_u3 e' r j p v) i := fun r' j' p' c => by
  rw [u3_ne, h r' j' p' c]
  rintro ⟨rfl, rfl, rfl⟩
  exact c (by have := LA_bd ha; omega)
