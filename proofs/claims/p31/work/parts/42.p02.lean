/-! THE LAW'S METHODS, 2: counts -/
theorem many_ct {w : Nat → Int32} {b : Nat} {st : Int32} : ∀ n, ms_many w b st n = ct_n (fun q => decide (w (375 + 6 * q + 3) = st ∧ w (375 + 6 * q + 0) = Int32.ofNat b)) n
  | 0 => rfl
  | n + 1 => by
    have ih := many_ct (w := w) (b := b) (st := st) n
    unfold ms_many ct_n
    rw [ih]
    by_cases c : w (375 + 6 * n + 3) = st ∧ w (375 + 6 * n + 0) = Int32.ofNat b
    · rw [if_pos c, if_pos (decide_eq_true c)]
    · rw [if_neg c, if_neg (fun z => c (of_decide_eq_true z))]
theorem ct_z {p : Nat → Bool} {n : Nat} (h : ∀ k, k < n → p k = false) : ct_n p n = 0 := by
  rcases Nat.eq_zero_or_pos (ct_n p n) with z | z
  · exact z
  · obtain ⟨k, a, b⟩ := ct_pos z
    rw [h k a] at b
    cases b
theorem ct_cg {p p' : Nat → Bool} {n : Nat} (h : ∀ k, k < n → p k = p' k) : ct_n p n = ct_n p' n :=
  Nat.le_antisymm (ct_le fun k hk z => by rw [← h k hk]; exact z) (ct_le fun k hk z => by rw [h k hk]; exact z)
theorem SF_ct {w : Nat → Int32} {b C : Nat} : ∀ {l : List Nat} {last : Int32}, SF w b C last l → ct_n (fun q => decide (ms_wt w b last q)) C = l.length
  | [], last, h => ct_z fun k hk => decide_eq_false (h k hk)
  | q0 :: r, last, h => by
    obtain ⟨⟨hq, hw, hm⟩, hr⟩ := h
    have ih := SF_ct hr
    show _ = r.length + 1
    rw [← ih]
    refine Nat.le_antisymm (ct_one (f := q0) fun k hk z => ?_) (ct_lt (f := q0) (fun k hk z => ?_) hq ?_ (decide_eq_true hw))
    · have z' := of_decide_eq_true z
      by_cases e : k = q0
      · exact .inr e
      · exact .inl (decide_eq_true ⟨z'.1, z'.2.1, hm k hk z' e⟩)
    · have z' := of_decide_eq_true z
      exact decide_eq_true ⟨z'.1, z'.2.1, Int32.lt_trans hw.2.2 z'.2.2⟩
    · exact decide_eq_false fun z => Int32.lt_irrefl z.2.2
theorem SF_len {w : Nat → Int32} {b C K : Nat} {l : List Nat} (hk : HO w C K) (h : SF w b C (-1) l) : l.length = ms_many w b 1 C := by
  rw [← SF_ct h, many_ct]
  refine ct_cg fun q hq => ?_
  have hK := hk.K40
  by_cases c : w (375 + 6 * q + 3) = 1 ∧ w (375 + 6 * q + 0) = Int32.ofNat b
  · obtain ⟨p, hp, e⟩ := hk.2.2.2 q hq (by rw [c.1]; decide)
    rw [decide_eq_true c, decide_eq_true (show ms_wt w b (-1) q from ⟨c.1, c.2, by
      rw [e]
      exact (ms_L_lt (p := 0) (by omega) (by omega)).mpr (Nat.zero_le _)⟩)]
  · rw [decide_eq_false c, decide_eq_false (fun z : ms_wt w b (-1) q => c ⟨z.1, z.2.1⟩)]
/-- the waiting of the first banks -/
def sm (w : Nat → Int32) (n : Nat) : Nat → Nat
  | 0 => 0
  | b + 1 => sm w n b + ms_many w b 1 n
theorem sm_S {w : Nat → Int32} {n x : Nat} (hx : w (375 + 6 * n + 0) = Int32.ofNat x) (hx4 : x < 4) : ∀ b, b ≤ 4 → sm w (n + 1) b = sm w n b + if w (375 + 6 * n + 3) = 1 ∧ x < b then 1 else 0
  | 0, _ => by
    rw [if_neg (fun z => absurd z.2 (by omega))]
    rfl
  | b + 1, hb => by
    have ih := sm_S hx hx4 b (by omega)
    have e : ms_many w b 1 (n + 1) = if w (375 + 6 * n + 3) = 1 ∧ w (375 + 6 * n + 0) = Int32.ofNat b then ms_many w b 1 n + 1 else ms_many w b 1 n := rfl
    show sm w (n + 1) b + ms_many w b 1 (n + 1) = sm w n b + ms_many w b 1 n + _
    rw [ih, e, hx]
    have hi : Int32.ofNat x = Int32.ofNat b ↔ x = b := ni_eq (by omega) (by omega)
    by_cases c : w (375 + 6 * n + 3) = 1
    · rcases Nat.lt_trichotomy x b with y | y | y
      · rw [if_pos (show w (375 + 6 * n + 3) = 1 ∧ x < b from ⟨c, y⟩), if_neg (show ¬ (w (375 + 6 * n + 3) = 1 ∧ Int32.ofNat x = Int32.ofNat b) from fun z => absurd (hi.mp z.2) (by omega)), if_pos (show w (375 + 6 * n + 3) = 1 ∧ x < b + 1 from ⟨c, by omega⟩)]
        omega
      · rw [if_neg (show ¬ (w (375 + 6 * n + 3) = 1 ∧ x < b) from fun z => absurd z.2 (by omega)), if_pos (show w (375 + 6 * n + 3) = 1 ∧ Int32.ofNat x = Int32.ofNat b from ⟨c, hi.mpr y⟩), if_pos (show w (375 + 6 * n + 3) = 1 ∧ x < b + 1 from ⟨c, by omega⟩)]
        omega
      · rw [if_neg (show ¬ (w (375 + 6 * n + 3) = 1 ∧ x < b) from fun z => absurd z.2 (by omega)), if_neg (show ¬ (w (375 + 6 * n + 3) = 1 ∧ Int32.ofNat x = Int32.ofNat b) from fun z => absurd (hi.mp z.2) (by omega)), if_neg (show ¬ (w (375 + 6 * n + 3) = 1 ∧ x < b + 1) from fun z => absurd z.2 (by omega))]
        omega
    · rw [if_neg (show ¬ (w (375 + 6 * n + 3) = 1 ∧ x < b) from fun z => c z.1), if_neg (show ¬ (w (375 + 6 * n + 3) = 1 ∧ Int32.ofNat x = Int32.ofNat b) from fun z => c z.1), if_neg (show ¬ (w (375 + 6 * n + 3) = 1 ∧ x < b + 1) from fun z => c z.1)]
      omega
theorem sm_ct {w : Nat → Int32} {B : Nat} (hB : B ≤ 4) : ∀ n, (∀ q, q < n → ∃ b, b < B ∧ w (375 + 6 * q + 0) = Int32.ofNat b) → sm w n B = ms_ct w 1 n
  | 0, _ => by
    have : ∀ b, sm w 0 b = 0 := fun b => by
      induction b with
      | zero => rfl
      | succ b ih => show sm w 0 b + 0 = 0; rw [ih]
    exact this B
  | n + 1, h => by
    have ih := sm_ct hB n (fun q hq => h q (by omega))
    obtain ⟨x, hx, e⟩ := h n (by omega)
    rw [sm_S e (by omega) B hB, ih]
    show _ = if w (375 + 6 * n + 3) = 1 then ms_ct w 1 n + 1 else ms_ct w 1 n
    by_cases c : w (375 + 6 * n + 3) = 1
    · rw [if_pos c, if_pos ⟨c, hx⟩]
    · rw [if_neg c, if_neg (fun z => c z.1), Nat.add_zero]
/-- what the rows of a bank lost, and of the first banks -/
def lr (w : Nat → Int32) (b : Nat) (a : Int32) : Nat → Int32
  | 0 => a
  | r + 1 => lr w b a r + w (55 + 5 * (16 * b + r) + 1)
def lsb (w : Nat → Int32) (R : Nat) : Nat → Int32
  | 0 => 0
  | b + 1 => lr w b (lsb w R b) R
theorem lost_lr {w : Nat → Int32} {b : Nat} : ∀ r, ms_lost w (16 * b + r) = lr w b (ms_lost w (16 * b)) r
  | 0 => rfl
  | r + 1 => by
    show ms_lost w (16 * b + r) + w (55 + 5 * (16 * b + r) + 1) = _
    rw [lost_lr r]
    rfl
theorem lr_z {w : Nat → Int32} {b R : Nat} {a : Int32} (h : ∀ r, R ≤ r → r < 16 → w (55 + 5 * (16 * b + r) + 1) = 0) : ∀ k, R + k ≤ 16 → lr w b a (R + k) = lr w b a R
  | 0, _ => rfl
  | k + 1, hk => by
    show lr w b a (R + k) + w (55 + 5 * (16 * b + (R + k)) + 1) = _
    rw [h (R + k) (by omega) (by omega), Int32.add_zero]
    exact lr_z h k (by omega)
theorem lost_lsb {w : Nat → Int32} {B R : Nat} (hz : BZ w B R) (h4 : B ≤ 4) (h16 : R ≤ 16) : ms_lost w 64 = lsb w R B := by
  have h1 : ∀ b, b ≤ B → ms_lost w (16 * b) = lsb w R b := fun b => by
    induction b with
    | zero => intro _; rfl
    | succ b ih =>
      intro hb
      rw [show 16 * (b + 1) = 16 * b + 16 by omega, lost_lr, ih (by omega)]
      have e := lr_z (w := w) (b := b) (R := R) (a := lsb w R b) (fun r h1 h2 => hz b r (by omega) h2 (by omega)) (16 - R) (by omega)
      rw [show R + (16 - R) = 16 by omega] at e
      exact e
  have h2 : ∀ k, B + k ≤ 4 → ms_lost w (16 * (B + k)) = ms_lost w (16 * B) := fun k => by
    induction k with
    | zero => intro _; rfl
    | succ k ih =>
      intro hk
      rw [show 16 * (B + (k + 1)) = 16 * (B + k) + 16 by omega, lost_lr]
      have e := lr_z (w := w) (b := B + k) (R := 0) (a := ms_lost w (16 * (B + k))) (fun r h1 h2 => hz (B + k) r (by omega) h2 (by omega)) 16 (by omega)
      rw [show 0 + 16 = 16 by omega] at e
      rw [e]
      exact ih (by omega)
  have h3 := h2 (4 - B) (by omega)
  rw [show B + (4 - B) = 4 by omega] at h3
  rw [← h1 B (Nat.le_refl B), ← h3]
