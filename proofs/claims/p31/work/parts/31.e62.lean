/-! THE PROGRAM AGAINST THE REFERENCE, 48: a text is cut into tokens -/
/-- the sort of a byte: 1 letter, 2 digit, 3 semicolon, 5 blank, 4 any other -/
def tk_c (x : Int32) : Int32 := if ¬ x < 97 ∧ x ≤ 122 then 1 else if ¬ x < 48 ∧ x ≤ 57 then 2 else if x = 59 then 3 else if x = 32 ∨ x = 10 then 5 else 4
def tk_f (q : Int32 → Bool) (b : Nat → Int32) : Nat → Nat → Nat
  | 0, k => k
  | f + 1, k => if q (b k) = true then tk_f q b f (k + 1) else k
def tk_g (q : Int32 → Bool) (b : Nat → Int32) (len k : Nat) : Nat := tk_f q b (len - k) k
theorem tk_gs {q : Int32 → Bool} {b : Nat → Int32} {len k : Nat} (h : k < len) (hq : q (b k) = true) : tk_g q b len k = tk_g q b len (k + 1) := by
  unfold tk_g
  rw [show len - k = (len - (k + 1)) + 1 by omega]
  exact if_pos hq
theorem tk_gn {q : Int32 → Bool} {b : Nat → Int32} {len k : Nat} (h : k < len) (hq : ¬ q (b k) = true) : tk_g q b len k = k := by
  unfold tk_g
  rw [show len - k = (len - (k + 1)) + 1 by omega]
  exact if_neg hq
theorem tk_ge {q : Int32 → Bool} {b : Nat → Int32} {len k : Nat} (h : ¬ k < len) : tk_g q b len k = k := by
  unfold tk_g
  rw [show len - k = 0 by omega]
  rfl
theorem tk_gle {q : Int32 → Bool} {b : Nat → Int32} {len : Nat} : ∀ j k, k + j = len → k ≤ tk_g q b len k ∧ tk_g q b len k ≤ len ∧ (∀ x, k ≤ x → x < tk_g q b len k → q (b x) = true) ∧ (tk_g q b len k < len → ¬ q (b (tk_g q b len k)) = true)
  | 0, k, h => by
    rw [tk_ge (by omega)]
    exact ⟨Nat.le_refl _, by omega, fun x h1 h2 => by omega, fun h1 => by omega⟩
  | j + 1, k, h => by
    by_cases z : q (b k) = true
    · obtain ⟨a1, a2, a3, a4⟩ := tk_gle (len := len) j (k + 1) (by omega)
      rw [tk_gs (by omega) z]
      refine ⟨by omega, a2, fun x h1 h2 => ?_, a4⟩
      by_cases e : x = k
      · subst e
        exact z
      · exact a3 x (by omega) h2
    · rw [tk_gn (by omega) z]
      exact ⟨Nat.le_refl _, by omega, fun x h1 h2 => by omega, fun _ => z⟩
def tk_q (c : Int32) (x : Int32) : Bool := decide (tk_c x = c)
def tk_s (b : Nat → Int32) (len p : Nat) : Nat := tk_g (tk_q 5) b len p
def tk_z (b : Nat → Int32) (len p : Nat) : Int32 := tk_c (b (tk_s b len p))
def tk_e (b : Nat → Int32) (len p : Nat) : Nat :=
  if tk_s b len p < len then (if tk_z b len p = 1 ∨ tk_z b len p = 2 then tk_g (tk_q (tk_z b len p)) b len (tk_s b len p + 1) else tk_s b len p + 1) else tk_s b len p
def tk_l (c : Int32) (m : Nat) : Int32 := if c = 1 then (if m ≤ 8 then 1 else 4) else if c = 2 then (if m ≤ 3 then 2 else 4) else c
def tk_k (b : Nat → Int32) (len p : Nat) : Int32 := if tk_s b len p < len then tk_l (tk_z b len p) (tk_e b len p - tk_s b len p) else 0
def tk_v (b : Nat → Int32) (s : Nat) : Nat → Int32
  | 0 => 0
  | m + 1 => (10 : Int32) * tk_v b s m + (b (s + m) - 48)
/-- only fields a to z of object R have changed -/
def PF (R a z : Nat) (d d' : Nat → Nat → Nat → Int32) : Prop := (∀ r, r ≠ R → d' r = d r) ∧ (∀ k, k < a ∨ z < k → d' R 0 k = d R 0 k)
theorem PF_r {R a z : Nat} (d : Nat → Nat → Nat → Int32) : PF R a z d d := ⟨fun _ _ => rfl, fun _ _ => rfl⟩
theorem PF_t {R a z : Nat} {d d' d'' : Nat → Nat → Nat → Int32} (h : PF R a z d d') (h' : PF R a z d' d'') : PF R a z d d'' := ⟨fun r x => (h'.1 r x).trans (h.1 r x), fun k x => (h'.2 k x).trans (h.2 k x)⟩
theorem PF_u {R a z k : Nat} {d : Nat → Nat → Nat → Int32} {v : Int32} (h1 : a ≤ k) (h2 : k ≤ z) : PF R a z d (ev_u3 d R 0 k v) := ⟨fun r x => u3n x, fun j x => u3x (by omega)⟩
theorem ni_sb {a b : Nat} (h : b ≤ a) : Int32.ofNat a - Int32.ofNat b = Int32.ofNat (a - b) := by
  rw [show Int32.ofNat a = Int32.ofNat (a - b) + Int32.ofNat b by rw [← Int32.ofNat_add, Nat.sub_add_cancel h], Int32.add_sub_cancel]
theorem tk_c5 {x : Int32} : tk_c x ≠ 0 := by
  unfold tk_c
  split
  · decide
  · split
    · decide
    · split
      · decide
      · split <;> decide
section EC37
variable {n : Nat} {lk : Nat → Nat → Nat → Bool} {d : Nat → Nat → Nat → Int32} {o : ev_W}
theorem ec_sort {x : Int32} {μ : ev_M} : EV (23, 0, [ev_I x], [], 0, 0) μ = some (.inl (some (ev_I (tk_c x))), μ) := by
  obtain ⟨n, lk, d, o⟩ := μ
  refine EV_bk (k := 400) ?_
  rw [bk_23_0]
  unfold tk_c
  by_cases a : x < 97 <;> by_cases b : x < 48 <;> by_cases c : x ≤ 57 <;> by_cases e : x ≤ 122 <;> by_cases f : x = 59 <;> by_cases g : x = 32 <;> by_cases i : x = 10 <;> simp [*]
theorem ec_runs (hl : LK lk) {b : Nat → Int32} {len s : Nat} {c : Int32} (hlen : len ≤ 600) (hc : c = 1 ∨ c = 2) : ∀ j k, k + j = len → s ≤ k → ∀ d : Nat → Nat → Nat → Int32, d 29 0 3 = c → d 29 0 4 = Int32.ofNat s → d 29 0 5 = Int32.ofNat k → d 29 0 2 = Int32.ofNat len → (∀ x, x < len → d 30 0 x = b x) →
    ∃ d', EV (20, 121, [ev_R 29 0, ev_I 1], [], 0, 0) (n, lk, d, o) = some (.inl none, (n, lk, d', o)) ∧ PF 29 3 5 d d' ∧ d' 29 0 3 = tk_l c (tk_g (tk_q c) b len k - s) ∧ d' 29 0 4 = Int32.ofNat s ∧ d' 29 0 5 = Int32.ofNat (tk_g (tk_q c) b len k) := by
  have fin : ∀ k, s ≤ k → k ≤ len → ∀ d : Nat → Nat → Nat → Int32, d 29 0 3 = c → d 29 0 4 = Int32.ofNat s → d 29 0 5 = Int32.ofNat k →
      ∃ d', (if d 29 0 3 = (1 : Int32) then (if ((d 29 0 5) - (d 29 0 4)) ≤ (8 : Int32) then some (.inl none, (n, lk, d, o)) else some (.inl none, (n, lk, (ev_u3 d 29 0 3 (4 : Int32)), o))) else (if ((d 29 0 5) - (d 29 0 4)) ≤ (3 : Int32) then some (.inl none, (n, lk, d, o)) else some (.inl none, (n, lk, (ev_u3 d 29 0 3 (4 : Int32)), o))) : ev_T) = some (.inl none, (n, lk, d', o)) ∧ PF 29 3 5 d d' ∧ d' 29 0 3 = tk_l c (k - s) ∧ d' 29 0 4 = Int32.ofNat s ∧ d' 29 0 5 = Int32.ofNat k := by
    intro k hs hk d h3 h4 h5
    rw [h3, h4, h5, ni_sb hs]
    unfold tk_l
    rcases hc with e | e
    · subst e
      rw [if_pos rfl, if_pos rfl]
      by_cases z : k - s ≤ 8
      · rw [if_pos (show Int32.ofNat (k - s) ≤ 8 from (ni_le (b := 8) (by omega) (by omega)).mpr z), if_pos z]
        exact ⟨d, rfl, PF_r d, h3, h4, h5⟩
      · rw [if_neg (show ¬ Int32.ofNat (k - s) ≤ 8 from fun v => z ((ni_le (b := 8) (by omega) (by omega)).mp v)), if_neg z]
        exact ⟨_, rfl, PF_u (by decide) (by decide), u3s, by rw [u3x (by decide), h4], by rw [u3x (by decide), h5]⟩
    · subst e
      rw [if_neg (show ¬ (2 : Int32) = 1 by decide), if_neg (show ¬ (2 : Int32) = 1 by decide), if_pos rfl]
      by_cases z : k - s ≤ 3
      · rw [if_pos (show Int32.ofNat (k - s) ≤ 3 from (ni_le (b := 3) (by omega) (by omega)).mpr z), if_pos z]
        exact ⟨d, rfl, PF_r d, h3, h4, h5⟩
      · rw [if_neg (show ¬ Int32.ofNat (k - s) ≤ 3 from fun v => z ((ni_le (b := 3) (by omega) (by omega)).mp v)), if_neg z]
        exact ⟨_, rfl, PF_u (by decide) (by decide), u3s, by rw [u3x (by decide), h4], by rw [u3x (by decide), h5]⟩
  intro j
  induction j with
  | zero =>
    intro k hk hs d h3 h4 h5 h2 hb
    rw [tk_ge (by omega)]
    obtain ⟨d', e, f⟩ := fin k hs (by omega) d h3 h4 h5
    refine ⟨d', EV_bk (k := 400) ?_, f⟩
    rw [bk_20_121, if_neg (show ¬ (1 : Int32) = 0 by decide), if_neg (show ¬ d 29 0 5 < d 29 0 2 by
      rw [h5, h2]
      intro v
      have := (ni_lt (by omega) (by omega)).mp v
      omega), if_neg (show ¬ (1 : Int32) = 0 by decide)]
    exact e
  | succ j ih =>
    intro k hk hs d h3 h4 h5 h2 hb
    have hlt : d 29 0 5 < d 29 0 2 := by
      rw [h5, h2]
      exact (ni_lt (by omega) (by omega)).mpr (by omega)
    by_cases z : tk_c (b k) = c
    · rw [tk_gs (by omega) (show tk_q c (b k) = true from decide_eq_true z)]
      obtain ⟨d', e, f, g⟩ := ih (k + 1) (by omega) (by omega) (ev_u3 d 29 0 5 (Int32.ofNat (k + 1))) (by rw [u3x (by decide), h3]) (by rw [u3x (by decide), h4]) u3s (by rw [u3x (by decide), h2]) (fun x hx => by rw [u3n (by decide), hb x hx])
      refine ⟨d', EV_bk (k := 400) ?_, PF_t (PF_u (by decide) (by decide)) f, g⟩
      rw [bk_20_121, if_neg (show ¬ (1 : Int32) = 0 by decide), if_pos hlt, hl 29 0 0 rfl (by decide) (by decide), cond_true, h5]
      simp only [ni_in (n := k) (N := 600) (by omega) (by omega), ni_c (n := k) (by omega), cond_true, hb k (by omega)]
      rw [ec_sort]
      simp only [ev_bi]
      rw [h3, if_pos z, h5, ni_1]
      exact e
    · rw [tk_gn (by omega) (show ¬ tk_q c (b k) = true from fun v => z (of_decide_eq_true v))]
      obtain ⟨d', e, f⟩ := fin k hs (by omega) d h3 h4 h5
      refine ⟨d', EV_bk (k := 400) ?_, f⟩
      rw [bk_20_121, if_neg (show ¬ (1 : Int32) = 0 by decide), if_pos hlt, hl 29 0 0 rfl (by decide) (by decide), cond_true]
      simp only [show d 29 0 5 = Int32.ofNat k from h5, ni_in (n := k) (N := 600) (by omega) (by omega), ni_c (n := k) (by omega), cond_true, hb k (by omega)]
      rw [ec_sort]
      simp only [ev_bi]
      rw [h3, if_neg z, if_neg (show ¬ (1 : Int32) = 0 by decide)]
      rw [h3] at e
      exact e
end EC37
