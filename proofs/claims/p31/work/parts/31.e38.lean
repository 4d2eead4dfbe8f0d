/-! THE PROGRAM AGAINST THE REFERENCE, 24: a tick keeps what every state keeps -/
theorem ms_one_n {w : Nat → Int32} {b wi k : Nat} {g : Bool} {sv : Option Nat} {to : Int32} (hto : to = -1 ∨ ∃ r, r < 16 ∧ to = Int32.ofNat r) (hsv : ∀ q, sv = some q → ∃ r, r < 16 ∧ to = Int32.ofNat r)
    (h : ∀ r, r < 16 → k ≠ 55 + 5 * (16 * b + r) + 2 ∧ k ≠ 55 + 5 * (16 * b + r) + 3) (h2 : ∀ q, sv = some q → k ≠ 375 + 6 * q + 3 ∧ k ≠ 375 + 6 * q + 4)
    (h3 : k ≠ 19 + 9 * b + 0 ∧ k ≠ 19 + 9 * b + 1 ∧ k ≠ 19 + 9 * b + 2 ∧ k ≠ 19 + 9 * b + 3 ∧ k ≠ 19 + 9 * b + 6 ∧ k ≠ 19 + 9 * b + 7) (h4 : k ≠ 12 ∧ k ≠ 13 ∧ k ≠ 16 ∧ k ≠ 17 ∧ k ≠ 18) : ms_one w b wi g sv to k = w k := by
  cases sv with
  | some q =>
    obtain ⟨r, hr, e⟩ := hsv q rfl
    subst e
    show ms_serve _ b q (Int32.ofNat r).toNatClampNeg k = w k
    rw [ni_c (by omega)]
    have := h r hr
    have := h2 q rfl
    unfold ms_serve
    simp (disch := omega) only [u1n]
  | none =>
    show (if to = -1 then _ else ms_refresh _ b to.toNatClampNeg (wi = 1)) k = w k
    by_cases z : to = -1
    · rw [if_pos z]
      simp (disch := omega) only [u1n]
    · rw [if_neg z]
      obtain ⟨r, hr, e⟩ := hto.resolve_left z
      subst e
      rw [ni_c (by omega)]
      have := h r hr
      unfold ms_refresh
      simp (disch := omega) only [u1n]
/-- what no act changes -/
def ms_KB (k : Nat) : Prop := k < 12 ∨ k = 14 ∨ k = 15 ∨ (∃ b, b < 4 ∧ (k = 19 + 9 * b + 4 ∨ k = 19 + 9 * b + 5)) ∨ (∃ c, c < 64 ∧ (k = 55 + 5 * c + 0 ∨ k = 55 + 5 * c + 1 ∨ k = 55 + 5 * c + 4)) ∨ ∃ q x, (x < 3 ∨ x = 5) ∧ k = 375 + 6 * q + x
theorem ms_acts_n {w : Nat → Int32} {wi : Nat → Nat} {g : Nat → Bool} {sv : Nat → Option Nat} {to : Nat → Int32} {B k : Nat} (h : ms_TS B sv to) (h4 : B ≤ 4) (hk : ms_KB k) : ∀ b, b ≤ B → ms_acts w wi g sv to b k = w k
  | 0, _ => rfl
  | b + 1, hb => by
    have ih := ms_acts_n (w := w) (wi := wi) (g := g) h h4 hk b (by omega)
    obtain ⟨t1, t2⟩ := h b (by omega)
    show ms_one (ms_acts w wi g sv to b) b (wi b) (g b) (sv b) (to b) k = w k
    rw [ms_one_n t1 t2 ?_ ?_ ?_ ?_, ih]
    all_goals rcases hk with z | z | z | ⟨b', hb', z⟩ | ⟨c, hc, z⟩ | ⟨q', x, hx, z⟩
    all_goals first | omega | (intro r hr; omega)
theorem ni_add1 (m : Nat) : Int32.ofNat m + 1 = Int32.ofNat (m + 1) := ni_1 m
theorem ms_acts_J {p : Nat → Int32} {wi : Nat → Nat} {g : Nat → Bool} {sv : Nat → Option Nat} {to : Nat → Int32} {B C : Nat} (hT : ms_TS B sv to) (h4 : B ≤ 4) (hsv : ∀ b q, b < B → sv b = some q → q < C ∧ p (375 + 6 * q + 3) = 1 ∧ p (375 + 6 * q + 0) = Int32.ofNat b) :
    ∀ b, b ≤ B → (∀ x, x < 4 → (b ≤ x → ms_acts p wi g sv to b (19 + 9 * x + 0) = p (19 + 9 * x + 0)) ∧ (ms_acts p wi g sv to b (19 + 9 * x + 0) = p (19 + 9 * x + 0) ∨ ms_acts p wi g sv to b (19 + 9 * x + 0) = p (19 + 9 * x + 0) + -1)) ∧
      (∃ k, k ≤ b ∧ ms_acts p wi g sv to b 16 = p 16 + Int32.ofNat k) ∧
      (∀ q x, b ≤ x → x < 4 → p (375 + 6 * q + 0) = Int32.ofNat x → ms_acts p wi g sv to b (375 + 6 * q + 3) = p (375 + 6 * q + 3)) ∧
      (∀ q, p (375 + 6 * q + 3) ≠ 0 → ms_acts p wi g sv to b (375 + 6 * q + 3) ≠ 0) ∧
      (∀ x, x < 4 → p (19 + 9 * x + 2) = Int32.ofNat (ms_many p x 2 C) → ms_acts p wi g sv to b (19 + 9 * x + 2) = Int32.ofNat (ms_many (ms_acts p wi g sv to b) x 2 C))
  | 0, _ => ⟨fun x _ => ⟨fun _ => rfl, .inl rfl⟩, ⟨0, Nat.le_refl 0, by show p 16 = p 16 + 0; rw [Int32.add_zero]⟩, fun _ _ _ _ _ => rfl, fun q h => h, fun x _ h => h⟩
  | b + 1, hb => by
    obtain ⟨i1, ⟨k, hk, i2⟩, i3, i4, i5⟩ := ms_acts_J (wi := wi) (g := g) hT h4 hsv b (by omega)
    obtain ⟨t1, t2⟩ := hT b (by omega)
    have hq0 : ∀ q x, (x < 3 ∨ x = 5) → ms_acts p wi g sv to b (375 + 6 * q + x) = p (375 + 6 * q + x) := fun q x hx => ms_acts_n hT h4 (.inr (.inr (.inr (.inr (.inr ⟨q, x, hx, rfl⟩))))) b (by omega)
    show (∀ x, x < 4 → (b + 1 ≤ x → ms_one (ms_acts p wi g sv to b) b (wi b) (g b) (sv b) (to b) (19 + 9 * x + 0) = p (19 + 9 * x + 0)) ∧ (ms_one (ms_acts p wi g sv to b) b (wi b) (g b) (sv b) (to b) (19 + 9 * x + 0) = p (19 + 9 * x + 0) ∨ ms_one (ms_acts p wi g sv to b) b (wi b) (g b) (sv b) (to b) (19 + 9 * x + 0) = p (19 + 9 * x + 0) + -1)) ∧
      (∃ k, k ≤ b + 1 ∧ ms_one (ms_acts p wi g sv to b) b (wi b) (g b) (sv b) (to b) 16 = p 16 + Int32.ofNat k) ∧
      (∀ q x, b + 1 ≤ x → x < 4 → p (375 + 6 * q + 0) = Int32.ofNat x → ms_one (ms_acts p wi g sv to b) b (wi b) (g b) (sv b) (to b) (375 + 6 * q + 3) = p (375 + 6 * q + 3)) ∧
      (∀ q, p (375 + 6 * q + 3) ≠ 0 → ms_one (ms_acts p wi g sv to b) b (wi b) (g b) (sv b) (to b) (375 + 6 * q + 3) ≠ 0) ∧
      (∀ x, x < 4 → p (19 + 9 * x + 2) = Int32.ofNat (ms_many p x 2 C) → ms_one (ms_acts p wi g sv to b) b (wi b) (g b) (sv b) (to b) (19 + 9 * x + 2) = Int32.ofNat (ms_many (ms_one (ms_acts p wi g sv to b) b (wi b) (g b) (sv b) (to b)) x 2 C))
    generalize ms_acts p wi g sv to b = A at *
    have nd : ∀ x, x < 4 → x ≠ b → ms_one A b (wi b) (g b) (sv b) (to b) (19 + 9 * x + 0) = A (19 + 9 * x + 0) := fun x hx e => ms_one_n t1 t2 (fun r hr => by omega) (fun q hq => by omega) (by omega) (by omega)
    cases hs : sv b with
    | some q =>
      obtain ⟨r, hr, e⟩ := t2 q hs
      obtain ⟨hqC, hq3, hqb⟩ := hsv b q (by omega) hs
      rw [hs, e] at nd
      rw [e]
      have e2 : ms_one A b (wi b) (g b) (some q) (Int32.ofNat r) = ms_serve (ev_u1 (ev_u1 A (19 + 9 * b + 6) (Int32.ofNat (wi b))) (19 + 9 * b + 7) (ms_b01 (g b))) b q r := by
        show ms_serve _ b q (Int32.ofNat r).toNatClampNeg = _
        rw [ni_c (by omega)]
      have a3 : A (375 + 6 * q + 3) = 1 := by rw [i3 q b (Nat.le_refl b) (by omega) hqb, hq3]
      have o0 : ms_one A b (wi b) (g b) (some q) (Int32.ofNat r) (19 + 9 * b + 0) = A (19 + 9 * b + 0) := by
        rw [e2]
        unfold ms_serve
        simp (disch := omega) only [u1n]
      have o3 : ∀ q', q' ≠ q → ms_one A b (wi b) (g b) (some q) (Int32.ofNat r) (375 + 6 * q' + 3) = A (375 + 6 * q' + 3) := fun q' hq' => by
        rw [e2]
        unfold ms_serve
        simp (disch := omega) only [u1n]
      have o0' : ∀ q', ms_one A b (wi b) (g b) (some q) (Int32.ofNat r) (375 + 6 * q' + 0) = A (375 + 6 * q' + 0) := fun q' => by
        rw [e2]
        unfold ms_serve
        simp (disch := omega) only [u1n]
      have o3' : ms_one A b (wi b) (g b) (some q) (Int32.ofNat r) (375 + 6 * q + 3) = 2 := by
        rw [e2]
        unfold ms_serve
        simp (disch := omega) only [u1n, u1s]
      have o2 : ∀ x, x < 4 → ms_one A b (wi b) (g b) (some q) (Int32.ofNat r) (19 + 9 * x + 2) = if x = b then A (19 + 9 * b + 2) + 1 else A (19 + 9 * x + 2) := fun x hx => by
        rw [e2]
        unfold ms_serve
        by_cases z : x = b
        · subst z
          rw [if_pos rfl]
          simp (disch := omega) only [u1n, u1s]
        · rw [if_neg z]
          simp (disch := omega) only [u1n]
      have o16 : ms_one A b (wi b) (g b) (some q) (Int32.ofNat r) 16 = A 16 + 1 := by
        rw [e2]
        unfold ms_serve
        simp (disch := omega) only [u1n, u1s]
      refine ⟨fun x hx => ?_, ⟨k + 1, by omega, ?_⟩, fun q' x hx hx4 hp => ?_, fun q' hp => ?_, fun x hx hp => ?_⟩
      · by_cases z : x = b
        · subst z
          rw [o0]
          exact ⟨fun _ => (i1 x hx).1 (Nat.le_refl x), (i1 x hx).2⟩
        · rw [nd x hx z]
          exact ⟨fun y => (i1 x hx).1 (by omega), (i1 x hx).2⟩
      · rw [o16, i2, Int32.add_assoc, ni_1]
      · have : q' ≠ q := fun z => by
          subst z
          rw [hqb] at hp
          have := (ni_eq (by omega) (by omega)).mp hp
          omega
        rw [o3 q' this]
        exact i3 q' x (by omega) hx4 hp
      · by_cases z : q' = q
        · subst z
          rw [o3']
          decide
        · rw [o3 q' z]
          exact i4 q' hp
      · rw [o2 x hx]
        by_cases z : x = b
        · subst z
          rw [if_pos rfl, i5 x hx hp, ni_1]
          rw [ms_many_s (w := A) (q0 := q) ⟨o3', by rw [o0', hq0 q 0 (by omega), hqb]⟩ (by rw [a3]; decide) hqC (fun q' _ hq' => by rw [o3 q' hq', o0'])]
        · rw [if_neg z, i5 x hx hp]
          refine congrArg Int32.ofNat (ms_many_c (fun q' hq' => ?_)).symm
          rw [o0']
          by_cases y : q' = q
          · subst y
            rw [hq0 q' 0 (by omega), hqb]
            have : ¬ Int32.ofNat b = Int32.ofNat x := fun v => z ((ni_eq (by omega) (by omega)).mp v).symm
            exact ⟨fun v => absurd v.2 this, fun v => absurd v.2 this⟩
          · rw [o3 q' y]
    | none =>
      rw [hs] at nd
      have o3 : ∀ k, 375 ≤ k → ms_one A b (wi b) (g b) none (to b) k = A k := fun k hk => by
        refine ms_one_n t1 (fun q hq => by cases hq) (fun r hr => ?_) (fun q hq => by cases hq) (by omega) (by omega)
        omega
      have o16 : ms_one A b (wi b) (g b) none (to b) 16 = A 16 := by
        show (if to b = -1 then _ else ms_refresh _ b (to b).toNatClampNeg (wi b = 1)) 16 = A 16
        by_cases z : to b = -1
        · rw [if_pos z]
          simp (disch := omega) only [u1n]
        · rw [if_neg z]
          obtain ⟨r, hr, e⟩ := t1.resolve_left z
          rw [e, ni_c (by omega)]
          unfold ms_refresh
          simp (disch := omega) only [u1n]
      have o2 : ∀ x, x < 4 → ms_one A b (wi b) (g b) none (to b) (19 + 9 * x + 2) = A (19 + 9 * x + 2) := fun x hx => by
        show (if to b = -1 then _ else ms_refresh _ b (to b).toNatClampNeg (wi b = 1)) _ = _
        by_cases z : to b = -1
        · rw [if_pos z]
          simp (disch := omega) only [u1n]
        · rw [if_neg z]
          obtain ⟨r, hr, e⟩ := t1.resolve_left z
          rw [e, ni_c (by omega)]
          unfold ms_refresh
          simp (disch := omega) only [u1n]
      have o0 : ms_one A b (wi b) (g b) none (to b) (19 + 9 * b + 0) = A (19 + 9 * b + 0) ∨ ms_one A b (wi b) (g b) none (to b) (19 + 9 * b + 0) = A (19 + 9 * b + 0) + -1 := by
        show (if to b = -1 then _ else ms_refresh _ b (to b).toNatClampNeg (wi b = 1)) _ = _ ∨ (if to b = -1 then _ else ms_refresh _ b (to b).toNatClampNeg (wi b = 1)) _ = _
        by_cases z : to b = -1
        · rw [if_pos z]
          left
          simp (disch := omega) only [u1n]
        · rw [if_neg z]
          obtain ⟨r, hr, e⟩ := t1.resolve_left z
          rw [e, ni_c (by omega)]
          right
          unfold ms_refresh
          simp (disch := omega) only [u1n, u1s]
      refine ⟨fun x hx => ?_, ⟨k, by omega, ?_⟩, fun q' x hx hx4 hp => ?_, fun q' hp => ?_, fun x hx hp => ?_⟩
      · by_cases z : x = b
        · subst z
          refine ⟨fun y => by omega, ?_⟩
          rw [← (i1 x hx).1 (Nat.le_refl x)]
          exact o0
        · rw [nd x hx z]
          exact ⟨fun y => (i1 x hx).1 (by omega), (i1 x hx).2⟩
      · rw [o16, i2]
      · rw [o3 _ (by omega)]
        exact i3 q' x (by omega) hx4 hp
      · rw [o3 _ (by omega)]
        exact i4 q' hp
      · rw [o2 x hx, i5 x hx hp]
        exact congrArg Int32.ofNat (ms_many_c (fun q' hq' => by rw [o3 _ (by omega), o3 _ (by omega)])).symm
