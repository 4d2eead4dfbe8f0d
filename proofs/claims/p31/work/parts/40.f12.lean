/-! THE LAW'S OWN MEMORY, 12: steps that don't touch each other -/
/-- two vectors are alike on S -/
def AG (S : Nat → Prop) (w w' : Nat → Int32) : Prop := ∀ k, S k → w k = w' k
theorem AG.u1 {S : Nat → Prop} {w w' : Nat → Int32} {K : Nat} {v v' : Int32} (h : AG S w w') (hv : v = v') : AG S (ev_u1 w K v) (ev_u1 w' K v') := fun k hk => by
  by_cases c : k = K
  · subst c
    rw [u1s, u1s, hv]
  · rw [u1n c, u1n c]
    exact h k hk
/-- f writes in A alone, and reads there and in Z alone -/
def LC (A Z : Nat → Prop) (f : (Nat → Int32) → Nat → Int32) : Prop := (∀ w k, ¬ A k → f w k = w k) ∧ ∀ w w' : Nat → Int32, AG (fun k => A k ∨ Z k) w w' → AG (fun k => A k ∨ Z k) (f w) (f w')
theorem LC.comm {A Z A' Z' : Nat → Prop} {f g : (Nat → Int32) → Nat → Int32} (hf : LC A Z f) (hg : LC A' Z' g) (h1 : ∀ k, A k → ¬ A' k) (h2 : ∀ k, Z k → ¬ A' k) (h3 : ∀ k, Z' k → ¬ A k) (w : Nat → Int32) : f (g w) = g (f w) := by
  funext k
  by_cases a : A k
  · rw [hg.1 (f w) k (h1 k a)]
    exact hf.2 _ _ (fun j hj => hg.1 w j (hj.elim (h1 j) (h2 j))) k (Or.inl a)
  · rw [hf.1 (g w) k a]
    by_cases c : A' k
    · exact hg.2 _ _ (fun j hj => (hf.1 w j (hj.elim (fun z y => h1 j y z) (h3 j))).symm) k (Or.inl c)
    · rw [hg.1 w k c, hg.1 (f w) k c, hf.1 w k a]
theorem LC.comp {A Z : Nat → Prop} {f g : (Nat → Int32) → Nat → Int32} (hf : LC A Z f) (hg : LC A Z g) : LC A Z (fun w => f (g w)) :=
  ⟨fun w k hk => (hf.1 _ k hk).trans (hg.1 w k hk), fun w w' h => hf.2 _ _ (hg.2 _ _ h)⟩
theorem LC.id (A Z : Nat → Prop) : LC A Z (fun w => w) := ⟨fun _ _ _ => rfl, fun _ _ h => h⟩
theorem LC_ite {A Z : Nat → Prop} {f g : (Nat → Int32) → Nat → Int32} {c : (Nat → Int32) → Prop} (dc : ∀ w, Decidable (c w)) (hf : LC A Z f) (hg : LC A Z g) (hc : ∀ w w' : Nat → Int32, AG (fun k => A k ∨ Z k) w w' → (c w ↔ c w')) : LC A Z (fun w => @ite _ (c w) (dc w) (f w) (g w)) := by
  refine ⟨fun w k hk => ?_, fun w w' h => ?_⟩
  · show (@ite _ (c w) (dc w) (f w) (g w)) k = w k
    by_cases z : c w
    · rw [if_pos z]; exact hf.1 w k hk
    · rw [if_neg z]; exact hg.1 w k hk
  · show AG _ (@ite _ (c w) (dc w) (f w) (g w)) (@ite _ (c w') (dc w') (f w') (g w'))
    by_cases z : c w
    · rw [if_pos z, if_pos ((hc w w' h).mp z)]; exact hf.2 w w' h
    · rw [if_neg z, if_neg (fun y => z ((hc w w' h).mpr y))]; exact hg.2 w w' h
theorem u1_c {w : Nat → Int32} {a b : Nat} {x y : Int32} (h : a ≠ b) : ev_u1 (ev_u1 w a x) b y = ev_u1 (ev_u1 w b y) a x := by
  funext k
  by_cases e1 : k = b
  · subst e1
    rw [u1s, u1n (fun z => h z.symm), u1s]
  · rw [u1n e1]
    by_cases e2 : k = a
    · subst e2
      rw [u1s, u1s]
    · rw [u1n e2, u1n e2, u1n e1]
theorem u1_id {w : Nat → Int32} {a : Nat} {x : Int32} (h : w a = x) : ev_u1 w a x = w := by
  funext k
  by_cases e : k = a
  · subst e
    rw [u1s, h]
  · rw [u1n e]
/-- where bank b acts -/
def AA (b : Nat) (sv : Option Nat) (k : Nat) : Prop := (19 + 9 * b ≤ k ∧ k < 19 + 9 * b + 4) ∨ (k = 12 ∨ k = 13 ∨ k = 16 ∨ k = 17 ∨ k = 18) ∨ (∃ r, r < 16 ∧ (k = 55 + 5 * (16 * b + r) + 2 ∨ k = 55 + 5 * (16 * b + r) + 3)) ∨ ∃ q, sv = some q ∧ (k = 375 + 6 * q + 3 ∨ k = 375 + 6 * q + 4)
def AZ (k : Nat) : Prop := k = 4 ∨ k = 8 ∨ ∃ q, k = 375 + 6 * q + 2
/-- where the rows of bank b grow -/
def AR (b k : Nat) : Prop := k = 14 ∨ ∃ r, r < 16 ∧ (k = 55 + 5 * (16 * b + r) + 0 ∨ k = 55 + 5 * (16 * b + r) + 1 ∨ k = 55 + 5 * (16 * b + r) + 4)
def AY (k : Nat) : Prop := k = 8
theorem mx_c {a a' c c' : Int32} (h1 : a = a') (h2 : c = c') : (if a ≤ c then c else a) = (if a' ≤ c' then c' else a') := by rw [h1, h2]
theorem LC_serve {b q r : Nat} (hr : r < 16) : LC (AA b (some q)) AZ (fun w => ms_serve w b q r) := by
  have a1 : AA b (some q) (375 + 6 * q + 3) := .inr (.inr (.inr ⟨q, rfl, .inl rfl⟩))
  have a2 : AA b (some q) (375 + 6 * q + 4) := .inr (.inr (.inr ⟨q, rfl, .inr rfl⟩))
  have a3 : AA b (some q) (19 + 9 * b + 2) := .inl ⟨by omega, by omega⟩
  have a4 : AA b (some q) (19 + 9 * b + 1) := .inl ⟨by omega, by omega⟩
  have a5 : AA b (some q) (55 + 5 * (16 * b + r) + 3) := .inr (.inr (.inl ⟨r, hr, .inr rfl⟩))
  have a6 : AA b (some q) 16 := .inr (.inl (by omega))
  have a7 : AA b (some q) 17 := .inr (.inl (by omega))
  have a8 : AA b (some q) 18 := .inr (.inl (by omega))
  have z8 : AZ 8 := .inr (.inl rfl)
  have z4 : AZ 4 := .inl rfl
  have zq : AZ (375 + 6 * q + 2) := .inr (.inr ⟨q, rfl⟩)
  refine ⟨fun w k hk => ?_, fun w w' h => ?_⟩
  · have n : ∀ {K : Nat}, AA b (some q) K → k ≠ K := fun h e => hk (e ▸ h)
    show ms_serve w b q r k = w k
    unfold ms_serve
    rw [u1n (n a8), u1n (n a7), u1n (n a6), u1n (n a5), u1n (n a4), u1n (n a3), u1n (n a2), u1n (n a1)]
  · have g1 := h.u1 (K := 375 + 6 * q + 3) (v := 2) (v' := 2) rfl
    have g2 := g1.u1 (K := 375 + 6 * q + 4) (g1 8 (.inr z8))
    have g3 := g2.u1 (K := 19 + 9 * b + 2) (congrArg (· + 1) (g2 _ (.inl a3)))
    have g4 := g3.u1 (K := 19 + 9 * b + 1) (congr (congrArg HAdd.hAdd (g3 _ (.inl a4))) (g3 4 (.inr z4)))
    have g5 := g4.u1 (K := 55 + 5 * (16 * b + r) + 3) (congrArg (· + 1) (g4 _ (.inl a5)))
    have g6 := g5.u1 (K := 16) (congrArg (· + 1) (g5 _ (.inl a6)))
    have h8 : w 8 - w (375 + 6 * q + 2) = w' 8 - w' (375 + 6 * q + 2) := by rw [h 8 (.inr z8), h _ (.inr zq)]
    have g7 := g6.u1 (K := 17) (congr (congrArg HAdd.hAdd (g6 _ (.inl a7))) h8)
    exact g7.u1 (K := 18) (mx_c h8 (g7 _ (.inl a8)))
theorem LC_refresh {b r : Nat} {sv : Option Nat} {u : Prop} (du : Decidable u) (hr : r < 16) : LC (AA b sv) AZ (fun w => ms_refresh w b r u) := by
  have a1 : AA b sv (19 + 9 * b + 0) := .inl ⟨by omega, by omega⟩
  have a2 : AA b sv (19 + 9 * b + 3) := .inl ⟨by omega, by omega⟩
  have a3 : AA b sv (55 + 5 * (16 * b + r) + 2) := .inr (.inr (.inl ⟨r, hr, .inl rfl⟩))
  have a4 : AA b sv 12 := .inr (.inl (by omega))
  have a5 : AA b sv 13 := .inr (.inl (by omega))
  refine ⟨fun w k hk => ?_, fun w w' h => ?_⟩
  · have n : ∀ {K : Nat}, AA b sv K → k ≠ K := fun h e => hk (e ▸ h)
    show ms_refresh w b r u k = w k
    unfold ms_refresh
    rw [u1n (n a5), u1n (n a4), u1n (n a3), u1n (n a2), u1n (n a1)]
  · have g1 := h.u1 (K := 19 + 9 * b + 0) (congrArg (· + -1) (h _ (.inl a1)))
    have g2 := g1.u1 (K := 19 + 9 * b + 3) (congrArg (· + 1) (g1 _ (.inl a2)))
    have g3 := g2.u1 (K := 55 + 5 * (16 * b + r) + 2) (congrArg (· + 1) (g2 _ (.inl a3)))
    have g4 := g3.u1 (K := 12) (congrArg (· + 1) (g3 _ (.inl a4)))
    exact g4.u1 (K := 13) (congrArg (· + (if u then 1 else 0)) (g4 _ (.inl a5)))
