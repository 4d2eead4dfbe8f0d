/-! THE LAW'S OWN MEMORY, 13: bank by bank -/
theorem LC.mono {A A' Z : Nat → Prop} {f : (Nat → Int32) → Nat → Int32} (hf : LC A Z f) (h : ∀ k, A k → A' k) : LC A' Z f := by
  refine ⟨fun w k hk => hf.1 w k (fun z => hk (h k z)), fun w w' g k hk => ?_⟩
  by_cases a : A k
  · exact hf.2 w w' (fun j hj => g j (hj.elim (fun z => Or.inl (h j z)) Or.inr)) k (Or.inl a)
  · rw [hf.1 w k a, hf.1 w' k a]
    exact g k hk
theorem cool_AG {t w w' : Nat → Int32} {c : Nat} (h : w 8 = w' 8) : ms_cool t w c = ms_cool t w' c := by
  unfold ms_cool
  rw [h]
theorem bnd_AG {t w w' : Nat → Int32} {c : Nat} {x : Int32} (h : w 8 = w' 8) : ms_bnd t w c x = ms_bnd t w' c x := by
  unfold ms_bnd
  rw [cool_AG h]
theorem LC_ages {t : Nat → Int32} {b r : Nat} {to hot : Int32} (hr : r < 16) : LC (AR b) AY (fun w => ms_ages t w b r to hot) := by
  have a0 : AR b (55 + 5 * (16 * b + r) + 0) := .inr ⟨r, hr, .inl rfl⟩
  have a1 : AR b (55 + 5 * (16 * b + r) + 1) := .inr ⟨r, hr, .inr (.inl rfl)⟩
  have a4 : AR b (55 + 5 * (16 * b + r) + 4) := .inr ⟨r, hr, .inr (.inr rfl)⟩
  have a14 : AR b 14 := .inl rfl
  have z8 : AY 8 := rfl
  refine ⟨fun w k hk => ?_, fun w w' h => ?_⟩
  · have n : ∀ {K : Nat}, AR b K → k ≠ K := fun h e => hk (e ▸ h)
    show ms_ages t w b r to hot k = w k
    unfold ms_ages ms_lose ms_age1
    split
    · rw [u1n (n a1), u1n (n a0)]
    · split
      · rw [u1n (n a14), u1n (n a4), u1n (n a1), u1n (n a0)]
      · rw [u1n (n a0)]
  · have g1 : AG (fun k => AR b k ∨ AY k) (ms_age1 w (16 * b + r)) (ms_age1 w' (16 * b + r)) := h.u1 (congrArg (· + 1) (h _ (.inl a0)))
    show AG _ (ms_ages t w b r to hot) (ms_ages t w' b r to hot)
    unfold ms_ages
    by_cases c : to = Int32.ofNat r
    · rw [if_pos c, if_pos c]
      exact (h.u1 rfl).u1 rfl
    · rw [if_neg c, if_neg c, bnd_AG (g1 8 (.inr z8)), g1 _ (.inl a0), g1 _ (.inl a1)]
      split
      · have g2 := g1.u1 (K := 55 + 5 * (16 * b + r) + 1) (v := 1) (v' := 1) rfl
        have g3 := g2.u1 (K := 55 + 5 * (16 * b + r) + 4) (congrArg (· + 1) (g2 _ (.inl a4)))
        exact g3.u1 (K := 14) (congrArg (· + 1) (g3 _ (.inl a14)))
      · exact g1
theorem LC_rows {t : Nat → Int32} {b : Nat} {to hot : Int32} : ∀ {R : Nat}, R ≤ 16 → LC (AR b) AY (fun w => ms_rows t w b to hot R)
  | 0, _ => LC.id _ _
  | R + 1, h => LC.comp (LC_ages (by omega)) (LC_rows (by omega))
/-- the heat of bank b alone -/
def AH (b k : Nat) : Prop := k = 19 + 9 * b + 1
def AN (_ : Nat) : Prop := False
theorem LC_cool1 {b : Nat} {sv : Option Nat} : LC (AH b) AN (fun w => ms_cool1 w b sv) := by
  refine ⟨fun w k hk => ?_, fun w w' h => ?_⟩
  · show ms_cool1 w b sv k = w k
    unfold ms_cool1
    split
    · exact u1n hk
    · rfl
  · show AG _ (ms_cool1 w b sv) (ms_cool1 w' b sv)
    have e := h (19 + 9 * b + 1) (Or.inl rfl)
    unfold ms_cool1
    rw [e]
    split
    · exact h.u1 rfl
    · exact h
/-- bank b acts -/
def ac_one (w : Nat → Int32) (b wi : Nat) (sv : Option Nat) (to : Int32) : Nat → Int32 := match sv with
  | some q => ms_serve w b q to.toNatClampNeg
  | none => if to = -1 then w else ms_refresh w b to.toNatClampNeg (wi = 1)
/-- a bank's wish and grant -/
def st_one (w : Nat → Int32) (b : Nat) (x y : Int32) : Nat → Int32 := ev_u1 (ev_u1 w (19 + 9 * b + 6) x) (19 + 9 * b + 7) y
theorem one_ac {w : Nat → Int32} {b wi : Nat} {g : Bool} {sv : Option Nat} {to : Int32} : ms_one w b wi g sv to = ac_one (st_one w b (Int32.ofNat wi) (ms_b01 g)) b wi sv to := by
  cases sv <;> rfl
theorem LC_ac {b wi : Nat} {sv : Option Nat} {to : Int32} (h1 : to = -1 ∨ ∃ r, r < 16 ∧ to = Int32.ofNat r) (h2 : ∀ q, sv = some q → ∃ r, r < 16 ∧ to = Int32.ofNat r) : LC (AA b sv) AZ (fun w => ac_one w b wi sv to) := by
  cases sv with
  | some q =>
    obtain ⟨r, hr, e⟩ := h2 q rfl
    have c : to.toNatClampNeg = r := by rw [e, ni_c (by omega)]
    show LC (AA b (some q)) AZ (fun w => ms_serve w b q to.toNatClampNeg)
    rw [c]
    exact LC_serve hr
  | none =>
    by_cases z : to = -1
    · have : (fun w : Nat → Int32 => ac_one w b wi none to) = fun w => w := by
        funext w
        show (if to = -1 then _ else _) = _
        rw [if_pos z]
      rw [this]
      exact LC.id _ _
    · obtain ⟨r, hr, e⟩ := h1.resolve_left z
      have c : to.toNatClampNeg = r := by rw [e, ni_c (by omega)]
      have : (fun w : Nat → Int32 => ac_one w b wi none to) = fun w => ms_refresh w b r (wi = 1) := by
        funext w
        show (if to = -1 then _ else _) = _
        rw [if_neg z, c]
      rw [this]
      exact LC_refresh _ hr
def A6 (b k : Nat) : Prop := k = 19 + 9 * b + 6 ∨ k = 19 + 9 * b + 7
theorem LC_st {b : Nat} {x y : Int32} : LC (A6 b) AN (fun w => st_one w b x y) := by
  refine ⟨fun w k hk => ?_, fun w w' h => (h.u1 rfl).u1 rfl⟩
  show ev_u1 (ev_u1 w (19 + 9 * b + 6) x) (19 + 9 * b + 7) y k = w k
  rw [u1n (fun e => hk (.inr e)), u1n (fun e => hk (.inl e))]
section EX
variable {t w : Nat → Int32} {b j wi R : Nat} {sv sv' : Option Nat} {to to' hot x y : Int32}
theorem x_ac_rows (h1 : to = -1 ∨ ∃ r, r < 16 ∧ to = Int32.ofNat r) (h2 : ∀ q, sv = some q → ∃ r, r < 16 ∧ to = Int32.ofNat r) (hR : R ≤ 16) (hb : b < 4) (hj : j < 4) : ms_rows t (ac_one w b wi sv to) j to' hot R = ac_one (ms_rows t w j to' hot R) b wi sv to :=
  (LC_rows hR).comm (LC_ac h1 h2) (fun k h h' => by
    unfold AR at h
    unfold AA at h'
    rcases h with h | ⟨r, hr, h⟩ <;> rcases h' with h' | h' | ⟨r', hr', h'⟩ | ⟨q, -, h'⟩ <;> omega) (fun k h h' => by
    unfold AY at h
    unfold AA at h'
    rcases h' with h' | h' | ⟨r', hr', h'⟩ | ⟨q, -, h'⟩ <;> omega) (fun k h h' => by
    unfold AZ at h
    unfold AR at h'
    rcases h with h | h | ⟨q, h⟩ <;> rcases h' with h' | ⟨r', hr', h'⟩ <;> omega) w
theorem x_ac_cool (h1 : to = -1 ∨ ∃ r, r < 16 ∧ to = Int32.ofNat r) (h2 : ∀ q, sv = some q → ∃ r, r < 16 ∧ to = Int32.ofNat r) (hj : j < 4) (hb : b < 4) (hne : j ≠ b) : ms_cool1 (ac_one w b wi sv to) j sv' = ac_one (ms_cool1 w j sv') b wi sv to :=
  LC_cool1.comm (LC_ac h1 h2) (fun k h h' => by
    unfold AH at h
    unfold AA at h'
    rcases h' with h' | h' | ⟨r', hr', h'⟩ | ⟨q, -, h'⟩ <;> omega) (fun k h h' => h.elim) (fun k h h' => by
    unfold AZ at h
    unfold AH at h'
    rcases h with h | h | ⟨q, h⟩ <;> omega) w
theorem x_st_rows (hR : R ≤ 16) (hb : b < 4) : ms_rows t (st_one w b x y) j to' hot R = st_one (ms_rows t w j to' hot R) b x y :=
  (LC_rows hR).comm LC_st (fun k h h' => by
    unfold AR at h
    unfold A6 at h'
    rcases h with h | ⟨r, hr, h⟩ <;> omega) (fun k h h' => by
    unfold AY at h
    unfold A6 at h'
    omega) (fun k h h' => h.elim) w
theorem x_st_cool : ms_cool1 (st_one w b x y) j sv' = st_one (ms_cool1 w j sv') b x y :=
  LC_cool1.comm LC_st (fun k h h' => by
    unfold AH at h
    unfold A6 at h'
    omega) (fun k h h' => h.elim) (fun k h h' => h.elim) w
theorem x_st_ac (h1 : to = -1 ∨ ∃ r, r < 16 ∧ to = Int32.ofNat r) (h2 : ∀ q, sv = some q → ∃ r, r < 16 ∧ to = Int32.ofNat r) (hb : b < 4) (hj : j < 4) : ac_one (st_one w j x y) b wi sv to = st_one (ac_one w b wi sv to) j x y :=
  (LC_ac h1 h2).comm LC_st (fun k h h' => by
    unfold AA at h
    unfold A6 at h'
    rcases h with h | h | ⟨r', hr', h⟩ | ⟨q, -, h⟩ <;> omega) (fun k h h' => by
    unfold AZ at h
    unfold A6 at h'
    rcases h with h | h | ⟨q, h⟩ <;> omega) (fun k h h' => h.elim) w
end EX
