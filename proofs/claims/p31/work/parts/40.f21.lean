/-! THE LAW'S OWN MEMORY, 21: one Memory is made like another -/
/-- e' is e, but at i stands what stood at j, where D says so -/
def CPr (e e' : Nat → Nat → Nat → Int32) (i j : Nat) (D : Nat → Nat → Nat → Prop) : Prop := (∀ r δ p, δ < 45 → D r δ p → e' r (i + δ) p = e r (j + δ) p) ∧ ∀ r x p, (∀ δ, x = i + δ → δ < 45 → ¬ D r δ p) → e' r x p = e r x p
section CP
variable {e e' : Nat → Nat → Nat → Int32} {i j : Nat} {D D' : Nat → Nat → Nat → Prop}
theorem CPr.rf (e : Nat → Nat → Nat → Int32) (i j : Nat) : CPr e e i j (fun _ _ _ => False) := ⟨fun _ _ _ _ h => h.elim, fun _ _ _ _ => rfl⟩
theorem CPr.cg (h : CPr e e' i j D) (hd : ∀ r δ p, D r δ p ↔ D' r δ p) : CPr e e' i j D' := ⟨fun r δ p h1 h2 => h.1 r δ p h1 ((hd r δ p).mpr h2), fun r x p h1 => h.2 r x p fun δ a b c => h1 δ a b ((hd r δ p).mp c)⟩
theorem CPr.at (h : CPr e e' i j D) (ha : i + 45 ≤ j ∨ j + 45 ≤ i) {r δ p : Nat} (hδ : δ < 45) : e' r (j + δ) p = e r (j + δ) p := h.2 r (j + δ) p fun δ' a b _ => by omega
theorem CPr.u3 (h : CPr e e' i j D) (ha : i + 45 ≤ j ∨ j + 45 ≤ i) {r δ p X Y : Nat} (hX : X = i + δ) (hY : Y = j + δ) (hδ : δ < 45) : CPr e (ev_u3 e' r X p (e' r Y p)) i j (fun r' δ' p' => D r' δ' p' ∨ (r' = r ∧ δ' = δ ∧ p' = p)) := by
  subst hX hY
  refine ⟨fun r' δ' p' h1 h2 => ?_, fun r' x p' h1 => ?_⟩
  · by_cases c : r' = r ∧ δ' = δ ∧ p' = p
    · obtain ⟨rfl, rfl, rfl⟩ := c
      rw [u3s, h.at ha hδ]
    · rw [u3_ne (by omega)]
      exact h.1 r' δ' p' h1 (h2.resolve_right c)
  · rw [u3_ne (fun z => h1 δ z.2.1 hδ (Or.inr ⟨z.1, rfl, z.2.2⟩))]
    exact h.2 r' x p' fun δ' a b c => h1 δ' a b (Or.inl c)
theorem CPr.w3 (h : CPr e e' i j D) (ha : i + 45 ≤ j ∨ j + 45 ≤ i) {r δ N X Y : Nat} (hX : X = i + δ) (hY : Y = j + δ) (hδ : δ < 45) : CPr e (ev_w3 e' r X (va_cpy (e' r Y) (e' r X) 0 0 N)) i j (fun r' δ' p' => D r' δ' p' ∨ (r' = r ∧ δ' = δ ∧ p' < N)) := by
  subst hX hY
  refine ⟨fun r' δ' p' h1 h2 => ?_, fun r' x p' h1 => ?_⟩
  · by_cases c : r' = r ∧ δ' = δ
    · obtain ⟨rfl, rfl⟩ := c
      rw [w3_eq ⟨rfl, rfl⟩]
      unfold va_cpy
      by_cases cp : p' < N
      · rw [if_pos ⟨by omega, by omega⟩, show 0 + (p' - 0) = p' by omega, h.at ha hδ]
      · rw [if_neg (by omega)]
        exact h.1 r' δ' p' h1 (h2.resolve_right (fun z => cp z.2.2))
    · rw [w3_ne (by omega)]
      exact h.1 r' δ' p' h1 (h2.resolve_right (fun z => c ⟨z.1, z.2.1⟩))
  · by_cases c : r' = r ∧ x = i + δ
    · obtain ⟨rfl, rfl⟩ := c
      rw [w3_eq ⟨rfl, rfl⟩]
      unfold va_cpy
      rw [if_neg (fun z => h1 δ rfl hδ (Or.inr ⟨rfl, rfl, by omega⟩))]
      exact h.2 r' _ p' fun δ' a b c => h1 δ' a b (Or.inl c)
    · rw [w3_ne c]
      exact h.2 r' x p' fun δ' a b c => h1 δ' a b (Or.inl c)
theorem CPr.f0 (h : CPr e e' i j D) (r δ : Nat) : CPr e e' i j (fun r' δ' p' => D r' δ' p' ∨ (r' = r ∧ δ' = δ ∧ p' < 0)) := h.cg fun r' δ' p' => ⟨Or.inl, fun z => z.resolve_right fun y => absurd y.2.2 (Nat.not_lt_zero _)⟩
/-- one field more -/
theorem CPr.f1 {r δ P X Y : Nat} (h : CPr e e' i j (fun r' δ' p' => D r' δ' p' ∨ (r' = r ∧ δ' = δ ∧ p' < P))) (ha : i + 45 ≤ j ∨ j + 45 ≤ i) (hX : X = i + δ) (hY : Y = j + δ) (hδ : δ < 45) : CPr e (ev_u3 e' r X P (e' r Y P)) i j (fun r' δ' p' => D r' δ' p' ∨ (r' = r ∧ δ' = δ ∧ p' < P + 1)) :=
  (h.u3 ha hX hY hδ (p := P)).cg fun r' δ' p' => by
    constructor
    · rintro ((z | ⟨z1, z2, z3⟩) | ⟨z1, z2, z3⟩)
      · exact .inl z
      · exact .inr ⟨z1, z2, by omega⟩
      · exact .inr ⟨z1, z2, by omega⟩
    · rintro (z | ⟨z1, z2, z3⟩)
      · exact .inl (.inl z)
      · by_cases c : p' = P
        · exact .inr ⟨z1, z2, c⟩
        · exact .inl (.inr ⟨z1, z2, by omega⟩)
theorem CPr.g0 (h : CPr e e' i j D) (r A N : Nat) : CPr e e' i j (fun r' δ' p' => D r' δ' p' ∨ (r' = r ∧ A ≤ δ' ∧ δ' < A + 0 ∧ p' < N)) := h.cg fun r' δ' p' => ⟨Or.inl, fun z => z.resolve_right fun y => by omega⟩
/-- one array more -/
theorem CPr.g1 {r A k N X Y : Nat} (h : CPr e e' i j (fun r' δ' p' => D r' δ' p' ∨ (r' = r ∧ A ≤ δ' ∧ δ' < A + k ∧ p' < N))) (ha : i + 45 ≤ j ∨ j + 45 ≤ i) (hX : X = i + (A + k)) (hY : Y = j + (A + k)) (hδ : A + k < 45) : CPr e (ev_w3 e' r X (va_cpy (e' r Y) (e' r X) 0 0 N)) i j (fun r' δ' p' => D r' δ' p' ∨ (r' = r ∧ A ≤ δ' ∧ δ' < A + (k + 1) ∧ p' < N)) :=
  (h.w3 ha hX hY hδ (N := N)).cg fun r' δ' p' => by
    constructor
    · rintro ((z | ⟨z1, z2, z3, z4⟩) | ⟨z1, z2, z3⟩)
      · exact .inl z
      · exact .inr ⟨z1, z2, by omega, z4⟩
      · exact .inr ⟨z1, by omega, by omega, z3⟩
    · rintro (z | ⟨z1, z2, z3, z4⟩)
      · exact .inl (.inl z)
      · by_cases c : δ' = A + k
        · exact .inr ⟨z1, c, z4⟩
        · exact .inl (.inr ⟨z1, z2, by omega, z4⟩)
end CP
/-- what is copied of a Memory, and of its bank b -/
def DM (r δ p : Nat) : Prop := (r = 200 ∧ δ = 0 ∧ p < 9) ∨ (r = 202 ∧ δ = 1 ∧ p < 7) ∨ (r = 203 ∧ δ = 2 ∧ p < 6) ∨ (r = 204 ∧ 3 ≤ δ ∧ δ < 3 + 5 ∧ p < 40)
def DB (b r δ p : Nat) : Prop := (r = 201 ∧ δ = 9 + 9 * b ∧ p < 9) ∨ (r = 205 ∧ 9 + 9 * b + 1 ≤ δ ∧ δ < 9 + 9 * b + 1 + 6 ∧ p < 16) ∨ (r = 204 ∧ δ = 9 + 9 * b + 7 ∧ p < 40) ∨ (r = 206 ∧ δ = 9 + 9 * b + 8 ∧ p < 16)
theorem LA_shift {i j r x p T K : Nat} (h : LA i r x p T K) : ∃ δ, δ < 45 ∧ x = i + δ ∧ LA j r (j + δ) p T K ∧ ((DM r δ p ∨ ∃ b, b < 4 ∧ DB b r δ p) ∨ (T = 2 ∧ K < 20 ∧ K % 5 ≠ 0 ∧ ¬ (DM r δ p ∨ ∃ b, b < 4 ∧ DB b r δ p))) := by
  unfold LA at h
  rcases h with ⟨rfl, rfl, h⟩ | ⟨rfl, rfl, hp, rfl, rfl⟩ | ⟨rfl, rfl, hp, rfl, rfl⟩ | ⟨y, hy, rfl, rfl, hp, rfl, rfl⟩ | ⟨b, hb, rfl, rfl, h⟩ | ⟨b, hb, rfl, hp, h⟩ | ⟨b, hb, rfl, hp, rfl, rfl, rfl⟩ | ⟨b, hb, rfl, hp, rfl, rfl, rfl⟩
  · refine ⟨0, by omega, rfl, Or.inl ⟨rfl, rfl, h⟩, .inl (.inl (.inl ⟨rfl, rfl, by omega⟩))⟩
  · exact ⟨1, by omega, rfl, la_set hp, .inl (.inl (.inr (.inl ⟨rfl, rfl, hp⟩)))⟩
  · exact ⟨2, by omega, rfl, la_acc hp, .inl (.inl (.inr (.inr (.inl ⟨rfl, rfl, hp⟩))))⟩
  · refine ⟨3 + y, by omega, by omega, ?_, .inl (.inl (.inr (.inr (.inr ⟨rfl, by omega, by omega, hp⟩))))⟩
    rw [show j + (3 + y) = j + 3 + y by omega]
    exact la_rq hy hp
  · refine ⟨9 + 9 * b, by omega, by omega, ?_, ?_⟩
    · rw [show j + (9 + 9 * b) = j + 9 + 9 * b by omega]
      exact Or.inr (Or.inr (Or.inr (Or.inr (Or.inl ⟨b, hb, rfl, rfl, h⟩))))
    · by_cases c : p < 9
      · exact .inl (.inr ⟨b, hb, .inl ⟨rfl, rfl, c⟩⟩)
      · refine .inr ⟨by omega, by omega, by omega, ?_⟩
        rintro ((⟨z, -⟩ | ⟨z, -⟩ | ⟨z, -⟩ | ⟨z, -⟩) | ⟨b', hb', (⟨-, -, z⟩ | ⟨z, -⟩ | ⟨z, -⟩ | ⟨z, -⟩)⟩) <;> omega
  · rcases h with ⟨rfl, rfl, rfl⟩ | ⟨rfl, rfl, rfl⟩ | ⟨rfl, rfl, rfl⟩ | ⟨rfl, rfl, rfl⟩ | ⟨rfl, rfl, rfl⟩ | ⟨rfl, rfl, rfl⟩
    · exact ⟨9 + 9 * b + 1, by omega, by omega, (show j + (9 + 9 * b + 1) = j + 9 + 9 * b + 1 by omega) ▸ la_own hb hp, .inl (.inr ⟨b, hb, .inr (.inl ⟨rfl, by omega, by omega, hp⟩)⟩)⟩
    · exact ⟨9 + 9 * b + 2, by omega, by omega, (show j + (9 + 9 * b + 2) = j + 9 + 9 * b + 2 by omega) ▸ la_from hb hp, .inl (.inr ⟨b, hb, .inr (.inl ⟨rfl, by omega, by omega, hp⟩)⟩)⟩
    · exact ⟨9 + 9 * b + 3, by omega, by omega, (show j + (9 + 9 * b + 3) = j + 9 + 9 * b + 3 by omega) ▸ la_age hb hp, .inl (.inr ⟨b, hb, .inr (.inl ⟨rfl, by omega, by omega, hp⟩)⟩)⟩
    · exact ⟨9 + 9 * b + 4, by omega, by omega, (show j + (9 + 9 * b + 4) = j + 9 + 9 * b + 4 by omega) ▸ la_rfr hb hp, .inl (.inr ⟨b, hb, .inr (.inl ⟨rfl, by omega, by omega, hp⟩)⟩)⟩
    · exact ⟨9 + 9 * b + 5, by omega, by omega, (show j + (9 + 9 * b + 5) = j + 9 + 9 * b + 5 by omega) ▸ la_acs hb hp, .inl (.inr ⟨b, hb, .inr (.inl ⟨rfl, by omega, by omega, hp⟩)⟩)⟩
    · exact ⟨9 + 9 * b + 6, by omega, by omega, (show j + (9 + 9 * b + 6) = j + 9 + 9 * b + 6 by omega) ▸ la_lss hb hp, .inl (.inr ⟨b, hb, .inr (.inl ⟨rfl, by omega, by omega, hp⟩)⟩)⟩
  · exact ⟨9 + 9 * b + 8, by omega, by omega, (show j + (9 + 9 * b + 8) = j + 9 + 9 * b + 8 by omega) ▸ la_lost hb hp, .inl (.inr ⟨b, hb, .inr (.inr (.inr ⟨rfl, rfl, hp⟩))⟩)⟩
  · exact ⟨9 + 9 * b + 7, by omega, by omega, (show j + (9 + 9 * b + 7) = j + 9 + 9 * b + 7 by omega) ▸ la_qu hb hp, .inl (.inr ⟨b, hb, .inr (.inr (.inl ⟨rfl, rfl, hp⟩))⟩)⟩
section LM21
variable {n : Nat} {lk : Nat → Nat → Nat → Bool} {d : Nat → Nat → Nat → Int32} {wn : Nat} {tt : Nat → Nat} {e : Nat → Nat → Nat → Int32} {q : Nat → Nat → Nat → Nat} {i j : Nat} {t u w : Nat → Int32} {P : ev_O × ev_M → Prop}
theorem bk_be {e0 : Nat → Nat → Nat → Int32} {D : Nat → Nat → Nat → Prop} (hq : LQ q i) (hq' : LQ q j) (ha : i + 45 ≤ j ∨ j + 45 ≤ i) {b : Nat} (hb : b < 4) (h : CPr e0 e i j D) :
    ∃ e', EV (258, 0, [ev_R 201 (i + 9 + 9 * b), ev_R 201 (j + 9 + 9 * b)], [], 0, 0) (n, lk, d, wn, tt, e, q) = some (.inl none, (n, lk, d, wn, tt, e', q)) ∧ CPr e0 e' i j (fun r δ p => D r δ p ∨ DB b r δ p) := by
  obtain ⟨-, m13, m14, m15, m16, m17, m18, m19, m20⟩ := hq.2 b hb
  obtain ⟨-, k13, k14, k15, k16, k17, k18, k19, k20⟩ := hq'.2 b hb
  have hX : i + 9 + 9 * b = i + (9 + 9 * b) := by omega
  have hY : j + 9 + 9 * b = j + (9 + 9 * b) := by omega
  have hδ : 9 + 9 * b < 45 := by omega
  have hn : 9 + 9 * b + 1 + 6 < 45 := by omega
  have hn8 : 9 + 9 * b + 8 < 45 := by omega
  have aX : ∀ k, i + 9 + 9 * b + 1 + k = i + (9 + 9 * b + 1 + k) := fun k => by omega
  have aY : ∀ k, j + 9 + 9 * b + 1 + k = j + (9 + 9 * b + 1 + k) := fun k => by omega
  have r1 := bk_258_0 EV (i + 9 + 9 * b) (j + 9 + 9 * b) n lk d wn tt e q
  have g1 := (((h.f0 201 (9 + 9 * b)).f1 ha hX hY hδ).f1 ha hX hY hδ).f1 ha hX hY hδ
  simp only [Nat.zero_add, Nat.reduceAdd] at g1
  generalize ev_u3 (ev_u3 (ev_u3 e 201 (i + 9 + 9 * b) 0 _) 201 (i + 9 + 9 * b) 1 _) 201 (i + 9 + 9 * b) 2 _ = e1 at g1 r1
  have g2 := ((g1.f1 ha hX hY hδ).f1 ha hX hY hδ).f1 ha hX hY hδ
  simp only [Nat.reduceAdd] at g2
  have r2 := bk_258_24 EV (i + 9 + 9 * b) (j + 9 + 9 * b) n lk d wn tt e1 q
  generalize ev_u3 (ev_u3 (ev_u3 e1 201 (i + 9 + 9 * b) 3 _) 201 (i + 9 + 9 * b) 4 _) 201 (i + 9 + 9 * b) 5 _ = e2 at g2 r2
  have g3 := ((g2.f1 ha hX hY hδ).f1 ha hX hY hδ).f1 ha hX hY hδ
  simp only [Nat.reduceAdd] at g3
  have r3 := bk_258_48 EV (i + 9 + 9 * b) (j + 9 + 9 * b) n lk d wn tt e2 q
  generalize ev_u3 (ev_u3 (ev_u3 e2 201 (i + 9 + 9 * b) 6 _) 201 (i + 9 + 9 * b) 7 _) 201 (i + 9 + 9 * b) 8 _ = e3 at g3 r3
  have g4 := (g3.g0 205 (9 + 9 * b + 1) 16).g1 (k := 0) (X := i + 9 + 9 * b + 1) (Y := j + 9 + 9 * b + 1) ha (by omega) (by omega) (by omega)
  have r4 := bk_258_72 EV (i + 9 + 9 * b) (j + 9 + 9 * b) n lk d wn tt e3 q
  rw [k13, ev_lq_s, m13, ev_lq_s] at r4
  generalize ev_w3 e3 205 (i + 9 + 9 * b + 1) _ = e4 at g4 r4
  have g5 := g4.g1 (k := 1) (X := i + 9 + 9 * b + 2) (Y := j + 9 + 9 * b + 2) ha (by omega) (by omega) (by omega)
  have r5 := bk_258_87 EV (i + 9 + 9 * b) (j + 9 + 9 * b) n lk d wn tt e4 q
  rw [k14, ev_lq_s, m14, ev_lq_s] at r5
  generalize ev_w3 e4 205 (i + 9 + 9 * b + 2) _ = e5 at g5 r5
  have g6 := g5.g1 (k := 2) (X := i + 9 + 9 * b + 3) (Y := j + 9 + 9 * b + 3) ha (by omega) (by omega) (by omega)
  have r6 := bk_258_102 EV (i + 9 + 9 * b) (j + 9 + 9 * b) n lk d wn tt e5 q
  rw [k15, ev_lq_s, m15, ev_lq_s] at r6
  generalize ev_w3 e5 205 (i + 9 + 9 * b + 3) _ = e6 at g6 r6
  have g7 := g6.g1 (k := 3) (X := i + 9 + 9 * b + 4) (Y := j + 9 + 9 * b + 4) ha (by omega) (by omega) (by omega)
  have r7 := bk_258_117 EV (i + 9 + 9 * b) (j + 9 + 9 * b) n lk d wn tt e6 q
  rw [k16, ev_lq_s, m16, ev_lq_s] at r7
  generalize ev_w3 e6 205 (i + 9 + 9 * b + 4) _ = e7 at g7 r7
  have g8 := g7.g1 (k := 4) (X := i + 9 + 9 * b + 5) (Y := j + 9 + 9 * b + 5) ha (by omega) (by omega) (by omega)
  have r8 := bk_258_132 EV (i + 9 + 9 * b) (j + 9 + 9 * b) n lk d wn tt e7 q
  rw [k17, ev_lq_s, m17, ev_lq_s] at r8
  generalize ev_w3 e7 205 (i + 9 + 9 * b + 5) _ = e8 at g8 r8
  have g9 := g8.g1 (k := 5) (X := i + 9 + 9 * b + 6) (Y := j + 9 + 9 * b + 6) ha (by omega) (by omega) (by omega)
  have r9 := bk_258_147 EV (i + 9 + 9 * b) (j + 9 + 9 * b) n lk d wn tt e8 q
  rw [k18, ev_lq_s, m18, ev_lq_s] at r9
  generalize ev_w3 e8 205 (i + 9 + 9 * b + 6) _ = e9 at g9 r9
  have g10 := g9.w3 ha (r := 204) (δ := 9 + 9 * b + 7) (N := 40) (X := i + 9 + 9 * b + 7) (Y := j + 9 + 9 * b + 7) (by omega) (by omega) (by omega)
  have r10 := bk_258_162 EV (i + 9 + 9 * b) (j + 9 + 9 * b) n lk d wn tt e9 q
  rw [k19, ev_lq_s, m19, ev_lq_s] at r10
  generalize ev_w3 e9 204 (i + 9 + 9 * b + 7) _ = e10 at g10 r10
  have g11 := g10.w3 ha (r := 206) (δ := 9 + 9 * b + 8) (N := 16) (X := i + 9 + 9 * b + 8) (Y := j + 9 + 9 * b + 8) (by omega) (by omega) (by omega)
  have r11 := bk_258_177 EV (i + 9 + 9 * b) (j + 9 + 9 * b) n lk d wn tt e10 q
  rw [k20, ev_lq_s, m20, ev_lq_s] at r11
  refine ⟨_, ?_, g11.cg fun r δ p => ?_⟩
  · exact EV_bk (r1.trans (EV_bk (r2.trans (EV_bk (r3.trans (EV_bk (r4.trans (EV_bk (r5.trans (EV_bk (r6.trans (EV_bk (r7.trans (EV_bk (r8.trans (EV_bk (r9.trans (EV_bk (r10.trans (EV_bk r11))))))))))))))))))))
  · simp only [DB, or_assoc]
end LM21
