/-! THE LAW'S OWN MEMORY, 9: who goes ahead -/
/-- x goes ahead of y, where r are the ranks -/
def rk_lt (r : Nat → Int32) (x y : Nat) : Prop := r x < r y ∨ (¬ r y < r x ∧ x < y)
theorem rk_lt_t {r : Nat → Int32} {x y : Nat} : rk_lt r x y ↔ ((r x).toInt < (r y).toInt ∨ ((r x).toInt = (r y).toInt ∧ x < y)) := by
  unfold rk_lt
  rw [i32_lt, i32_lt]
  omega
theorem rk_tr {r : Nat → Int32} {x y z : Nat} (h : rk_lt r x y) (h' : rk_lt r y z) : rk_lt r x z := by
  rw [rk_lt_t] at h h' ⊢
  omega
theorem rk_ir {r : Nat → Int32} {x y : Nat} (h : rk_lt r x y) (h' : rk_lt r y x) : False := by
  rw [rk_lt_t] at h h'
  omega
theorem rk_to {r : Nat → Int32} {x y : Nat} (h : x ≠ y) : rk_lt r x y ∨ rk_lt r y x := by
  rw [rk_lt_t, rk_lt_t]
  omega
section RK
variable {t w : Nat → Int32} {wk wi : Nat → Nat}
theorem ms_bst_no {gr : Nat → Bool} : ∀ {n : Nat}, ms_bst t w wk wi gr n = none → ∀ k, k < n → ms_rf (wi k) → gr k = true
  | 0, _, k, hk, _ => absurd hk (Nat.not_lt_zero k)
  | n + 1, h, k, hk, hr => by
    unfold ms_bst at h
    by_cases c : ms_rf (wi n) ∧ gr n = false
    · rw [if_pos c] at h
      cases hb : ms_bst t w wk wi gr n with
      | none => rw [hb] at h; cases h
      | some f =>
        rw [hb] at h
        simp only [] at h
        split at h <;> cases h
    · rw [if_neg c] at h
      by_cases e : k = n
      · subst e
        cases hg : gr k with
        | true => rfl
        | false => exact absurd ⟨hr, hg⟩ c
      · exact ms_bst_no h k (by omega) hr
theorem ms_bst_is {gr : Nat → Bool} : ∀ {n f : Nat}, ms_bst t w wk wi gr n = some f → f < n ∧ ms_rf (wi f) ∧ gr f = false ∧ ∀ k, k < n → ms_rf (wi k) → gr k = false → k ≠ f → rk_lt (ms_rank t w wk wi) f k
  | 0, f, h => by cases h
  | n + 1, f, h => by
    unfold ms_bst at h
    by_cases c : ms_rf (wi n) ∧ gr n = false
    · rw [if_pos c] at h
      cases hb : ms_bst t w wk wi gr n with
      | none =>
        rw [hb] at h
        cases h
        refine ⟨by omega, c.1, c.2, fun k hk hr hg hne => ?_⟩
        have := ms_bst_no hb k (by omega) hr
        rw [hg] at this
        cases this
      | some g =>
        rw [hb] at h
        simp only [] at h
        obtain ⟨a1, a2, a3, a4⟩ := ms_bst_is hb
        by_cases z : ms_rank t w wk wi n < ms_rank t w wk wi g
        · rw [if_pos z] at h
          cases h
          refine ⟨by omega, c.1, c.2, fun k hk hr hg hne => ?_⟩
          by_cases e : k = g
          · subst e
            exact Or.inl z
          · exact rk_tr (Or.inl z) (a4 k (by omega) hr hg e)
        · rw [if_neg z] at h
          cases h
          refine ⟨by omega, a2, a3, fun k hk hr hg hne => ?_⟩
          by_cases e : k = n
          · subst e
            exact Or.inr ⟨z, by omega⟩
          · exact a4 k (by omega) hr hg hne
    · rw [if_neg c] at h
      obtain ⟨a1, a2, a3, a4⟩ := ms_bst_is h
      refine ⟨by omega, a2, a3, fun k hk hr hg hne => ?_⟩
      by_cases e : k = n
      · subst e
        exact absurd ⟨hr, hg⟩ c
      · exact a4 k (by omega) hr hg hne
end RK
/-- how many below n are so -/
def ct_n (p : Nat → Bool) : Nat → Nat
  | 0 => 0
  | n + 1 => if p n = true then ct_n p n + 1 else ct_n p n
theorem ct_le {p p' : Nat → Bool} : ∀ {n : Nat}, (∀ k, k < n → p k = true → p' k = true) → ct_n p n ≤ ct_n p' n
  | 0, _ => Nat.le_refl _
  | n + 1, h => by
    have ih := ct_le (n := n) (fun k hk => h k (by omega))
    have hn := h n (by omega)
    unfold ct_n
    by_cases c : p n = true
    · rw [if_pos c, if_pos (hn c)]; omega
    · rw [if_neg c]
      split <;> omega
theorem ct_lt {p p' : Nat → Bool} {f : Nat} : ∀ {n : Nat}, (∀ k, k < n → p k = true → p' k = true) → f < n → p f = false → p' f = true → ct_n p n + 1 ≤ ct_n p' n
  | 0, _, hf, _, _ => absurd hf (Nat.not_lt_zero f)
  | n + 1, h, hf, h1, h2 => by
    by_cases e : f = n
    · subst e
      have := ct_le (n := f) (fun k hk => h k (by omega))
      unfold ct_n
      rw [if_neg (by rw [h1]; decide), if_pos h2]
      omega
    · have ih := ct_lt (n := n) (fun k hk => h k (by omega)) (by omega) h1 h2
      have hn := h n (by omega)
      unfold ct_n
      by_cases c : p n = true
      · rw [if_pos c, if_pos (hn c)]; omega
      · rw [if_neg c]
        split <;> omega
theorem ct_one {p p' : Nat → Bool} {f : Nat} : ∀ {n : Nat}, (∀ k, k < n → p k = true → p' k = true ∨ k = f) → ct_n p n ≤ ct_n p' n + 1
  | 0, _ => Nat.zero_le _
  | n + 1, h => by
    by_cases e : n = f
    · subst e
      have := ct_le (p := p) (p' := p') (n := n) (fun k hk z => (h k (by omega) z).resolve_right (by omega))
      unfold ct_n
      split <;> split <;> omega
    · have ih := ct_one (n := n) (fun k hk => h k (by omega))
      have hn := h n (by omega)
      unfold ct_n
      by_cases c : p n = true
      · rw [if_pos c, if_pos ((hn c).resolve_right e)]; omega
      · rw [if_neg c]
        split <;> omega
theorem ct_pos {p : Nat → Bool} : ∀ {n : Nat}, 0 < ct_n p n → ∃ k, k < n ∧ p k = true
  | 0, h => absurd h (Nat.lt_irrefl 0)
  | n + 1, h => by
    unfold ct_n at h
    by_cases c : p n = true
    · exact ⟨n, by omega, c⟩
    · rw [if_neg c] at h
      obtain ⟨k, a, b⟩ := ct_pos h
      exact ⟨k, by omega, b⟩
theorem rk_max {r : Nat → Int32} {p : Nat → Bool} : ∀ {n : Nat}, (∃ k, k < n ∧ p k = true) → ∃ k, k < n ∧ p k = true ∧ ∀ k', k' < n → p k' = true → k' = k ∨ rk_lt r k' k
  | 0, h => by obtain ⟨k, a, -⟩ := h; omega
  | n + 1, h => by
    by_cases c : p n = true
    · by_cases z : ∃ k, k < n ∧ p k = true
      · obtain ⟨k, a1, a2, a3⟩ := rk_max z
        rcases rk_to (r := r) (x := k) (y := n) (by omega) with g | g
        · refine ⟨n, by omega, c, fun k' hk' hp => ?_⟩
          by_cases e : k' = n
          · exact Or.inl e
          · rcases a3 k' (by omega) hp with e | e
            · subst e; exact Or.inr g
            · exact Or.inr (rk_tr e g)
        · refine ⟨k, by omega, a2, fun k' hk' hp => ?_⟩
          by_cases e : k' = n
          · subst e; exact Or.inr g
          · exact a3 k' (by omega) hp
      · exact ⟨n, by omega, c, fun k' hk' hp => Or.inl (by
          by_cases e : k' = n
          · exact e
          · exact absurd ⟨k', by omega, hp⟩ z)⟩
    · obtain ⟨k, a1, a2, a3⟩ := rk_max (r := r) (p := p) (n := n) (by
        obtain ⟨k, a, b⟩ := h
        exact ⟨k, by have : k ≠ n := fun e => c (e ▸ b); omega, b⟩)
      refine ⟨k, by omega, a2, fun k' hk' hp => a3 k' ?_ hp⟩
      have : k' ≠ n := fun e => c (e ▸ hp)
      omega
section RK2
variable {t w : Nat → Int32} {wk wi : Nat → Nat}
/-- does bank k's wish to refresh go ahead of bank b's -/
def ms_bf (t w : Nat → Int32) (wk wi : Nat → Nat) (b k : Nat) : Bool := decide (ms_rf (wi k)) && (decide (ms_rank t w wk wi k < ms_rank t w wk wi b) || (!(decide (ms_rank t w wk wi b < ms_rank t w wk wi k)) && decide (k < b)))
theorem ms_bf_iff {b k : Nat} : ms_bf t w wk wi b k = true ↔ ms_rf (wi k) ∧ rk_lt (ms_rank t w wk wi) k b := by
  unfold ms_bf rk_lt
  simp only [Bool.and_eq_true, Bool.or_eq_true, Bool.not_eq_true', decide_eq_true_eq, decide_eq_false_iff_not]
theorem ms_gr_bf {B : Nat} : ∀ s, (∀ b, b < B → ms_rf (wi b) → (ms_gr t w wk wi B s b = true ↔ ct_n (ms_bf t w wk wi b) B < s)) ∧ ∀ b, ¬ ms_rf (wi b) → ms_gr t w wk wi B s b = ms_g0 wi b
  | 0 => by
    refine ⟨fun b hb hr => ⟨fun z => ?_, fun z => absurd z (Nat.not_lt_zero _)⟩, fun b hr => rfl⟩
    have z : (decide (wi b = 2) || decide (wi b = 4)) = true := z
    simp only [Bool.or_eq_true, decide_eq_true_eq] at z
    omega
  | s + 1 => by
    obtain ⟨ih, ih2⟩ := ms_gr_bf (B := B) s
    have hs : ms_gr t w wk wi B (s + 1) = match ms_bst t w wk wi (ms_gr t w wk wi B s) B with
      | none => ms_gr t w wk wi B s
      | some k => fun b => if b = k then true else ms_gr t w wk wi B s b := rfl
    cases hb : ms_bst t w wk wi (ms_gr t w wk wi B s) B with
    | none =>
      rw [hb] at hs
      simp only [] at hs
      rw [hs]
      refine ⟨fun b hbB hr => ⟨fun z => ?_, fun _ => ms_bst_no hb b hbB hr⟩, ih2⟩
      have := (ih b hbB hr).mp z
      omega
    | some f =>
      rw [hb] at hs
      simp only [] at hs
      rw [hs]
      obtain ⟨f1, f2, f3, f4⟩ := ms_bst_is hb
      have hfs : ¬ ct_n (ms_bf t w wk wi f) B < s := fun z => by
        have := (ih f f1 f2).mpr z
        rw [f3] at this
        cases this
      have hff : ct_n (ms_bf t w wk wi f) B < s + 1 := by
        by_cases z : 0 < ct_n (ms_bf t w wk wi f) B
        · obtain ⟨k, a1, a2, a3⟩ := rk_max (r := ms_rank t w wk wi) (ct_pos z)
          obtain ⟨c1, c2⟩ := ms_bf_iff.mp a2
          have hg : ms_gr t w wk wi B s k = true := by
            cases hg : ms_gr t w wk wi B s k with
            | true => rfl
            | false =>
              have hne : k ≠ f := fun e => by subst e; exact rk_ir c2 c2
              exact (rk_ir c2 (f4 k a1 c1 hg hne)).elim
          have hk := (ih k a1 c1).mp hg
          have := ct_one (p := ms_bf t w wk wi f) (p' := ms_bf t w wk wi k) (f := k) (n := B) (fun k' hk' hp => by
            rcases a3 k' hk' hp with e | e
            · exact Or.inr e
            · exact Or.inl (ms_bf_iff.mpr ⟨(ms_bf_iff.mp hp).1, e⟩))
          omega
        · omega
      refine ⟨fun b hbB hr => ?_, fun b hr => ?_⟩
      · show (if b = f then true else ms_gr t w wk wi B s b) = true ↔ _
        by_cases e : b = f
        · subst e
          rw [if_pos rfl]
          exact ⟨fun _ => hff, fun _ => rfl⟩
        · rw [if_neg e, ih b hbB hr]
          refine ⟨fun z => by omega, fun z => ?_⟩
          by_cases y : ct_n (ms_bf t w wk wi b) B < s
          · exact y
          · have hg : ms_gr t w wk wi B s b = false := by
              cases hg : ms_gr t w wk wi B s b with
              | false => rfl
              | true => exact absurd ((ih b hbB hr).mp hg) y
            have hlt := f4 b hbB hr hg e
            have := ct_lt (p := ms_bf t w wk wi f) (p' := ms_bf t w wk wi b) (f := f) (n := B) (fun k hk hp => ms_bf_iff.mpr ⟨(ms_bf_iff.mp hp).1, rk_tr (ms_bf_iff.mp hp).2 hlt⟩) f1 (by
              cases hp : ms_bf t w wk wi f f with
              | false => rfl
              | true => exact (rk_ir (ms_bf_iff.mp hp).2 (ms_bf_iff.mp hp).2).elim) (ms_bf_iff.mpr ⟨f2, hlt⟩)
            omega
      · have : b ≠ f := fun e => hr (e ▸ f2)
        show (if b = f then true else ms_gr t w wk wi B s b) = _
        rw [if_neg this]
        exact ih2 b hr
end RK2
