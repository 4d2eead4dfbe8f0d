/-! THE PROGRAM AGAINST THE REFERENCE, 21: both ways through a tick end alike -/
/-- touched rows of the banks of X -/
def ms_TX (to : Nat → Int32) (X : Nat → Nat → Prop) (k : Nat) : Prop := ∀ b r, X b r → r < 16 → to b = Int32.ofNat r → k ≠ 55 + 5 * (16 * b + r) + 0 ∧ k ≠ 55 + 5 * (16 * b + r) + 1
theorem ms_TX_lo {to : Nat → Int32} {X : Nat → Nat → Prop} {k : Nat} (h : k < 55) : ms_TX to X k := fun b r _ _ _ => by omega
theorem ms_TX_hi {to : Nat → Int32} {X : Nat → Nat → Prop} {k : Nat} (hX : ∀ b r, X b r → b < 4) (h : 375 ≤ k) : ms_TX to X k := fun b r h1 _ _ => by
  have := hX b r h1
  omega
theorem ms_TX_x {to : Nat → Int32} {X : Nat → Nat → Prop} {c x : Nat} (h : 2 ≤ x) (h5 : x < 5) : ms_TX to X (55 + 5 * c + x) := fun b r h1 _ _ => by omega
def ms_RA (V A : Nat → Int32) (to : Nat → Int32) (B b : Nat) : Prop :=
  (∀ k, (∀ b', b ≤ b' → b' < B → k ≠ 19 + 9 * b' + 6 ∧ k ≠ 19 + 9 * b' + 7) → ms_TX to (fun b' _ => b' < b) k → V k = A k) ∧
  ∀ b' r, b' < b → r < 16 → to b' = Int32.ofNat r → V (55 + 5 * (16 * b' + r) + 0) = 0 ∧ V (55 + 5 * (16 * b' + r) + 1) = 0
theorem ms_max {x y : Int32} : (if x < y then y else x) = if y ≤ x then x else y := by
  by_cases h : x < y
  · rw [if_pos h, if_neg (Int32.not_le.mpr h)]
  · rw [if_neg h, if_pos (Int32.not_lt.mp h)]
theorem ms_RA_acts {p V0 : Nat → Int32} {wi : Nat → Nat} {g : Nat → Bool} {sv : Nat → Option Nat} {to : Nat → Int32} {B : Nat} (h4 : B ≤ 4) (hT : ms_TS B sv to)
    (h0 : ∀ k, (∀ b', b' < B → k ≠ 19 + 9 * b' + 6 ∧ k ≠ 19 + 9 * b' + 7) → V0 k = p k) (h6 : ∀ b, b < B → V0 (19 + 9 * b + 6) = Int32.ofNat (wi b) ∧ V0 (19 + 9 * b + 7) = ms_b01 (g b)) :
    ∀ b, b ≤ B → ms_RA (mc_acts V0 wi sv to b) (ms_acts p wi g sv to b) to B b
  | 0, _ => ⟨fun k h _ => h0 k (fun b' hb' => h b' (Nat.zero_le _) hb'), fun b' r h => absurd h (Nat.not_lt_zero _)⟩
  | b + 1, hb => by
    obtain ⟨ih, ihz⟩ := ms_RA_acts (wi := wi) h4 hT h0 h6 b (by omega)
    obtain ⟨t1, t2⟩ := hT b (by omega)
    have v6 : mc_acts V0 wi sv to b (19 + 9 * b + 6) = Int32.ofNat (wi b) := by
      rw [mc_acts_k hT h4 (.inr (.inr (.inr (.inl ⟨b, by omega, by omega⟩)))) b (by omega)]
      exact (h6 b (by omega)).1
    have v7 : mc_acts V0 wi sv to b (19 + 9 * b + 7) = ms_b01 (g b) := by
      rw [mc_acts_k hT h4 (.inr (.inr (.inr (.inl ⟨b, by omega, by omega⟩)))) b (by omega)]
      exact (h6 b (by omega)).2
    show ms_RA (mc_one (mc_acts V0 wi sv to b) b (wi b) (sv b) (to b)) (ms_one (ms_acts p wi g sv to b) b (wi b) (g b) (sv b) (to b)) to B (b + 1)
    generalize hV : mc_acts V0 wi sv to b = V at *
    generalize hA : ms_acts p wi g sv to b = A at *
    have hX : ∀ b' r : Nat, (fun b' _ => b' < b : Nat → Nat → Prop) b' r → b' < 4 := fun b' r h => by
      have h : b' < b := h
      omega
    have go : ∀ k, (∀ b', b + 1 ≤ b' → b' < B → k ≠ 19 + 9 * b' + 6 ∧ k ≠ 19 + 9 * b' + 7) → k ≠ 19 + 9 * b + 6 → k ≠ 19 + 9 * b + 7 → ms_TX to (fun b' _ => b' < b + 1) k → V k = A k := fun k h1 h2 h3 hx =>
      ih k (fun b' x y => by
        by_cases e : b' = b
        · subst e
          exact ⟨h2, h3⟩
        · exact h1 b' (by omega) y) (fun b' r x y z => hx b' r (Nat.lt_succ_of_lt x) y z)
    have lo : ∀ k, k < 19 → V k = A k := fun k hk => ih k (fun b' _ _ => by omega) (ms_TX_lo (by omega))
    have bk : ∀ x, x < 6 → V (19 + 9 * b + x) = A (19 + 9 * b + x) := fun x hx => ih _ (fun b' _ _ => by omega) (ms_TX_lo (by omega))
    have hi : ∀ k, 375 ≤ k → V k = A k := fun k hk => ih k (fun b' _ _ => by omega) (ms_TX_hi hX hk)
    have rw' : ∀ r x, r < 16 → 2 ≤ x → x < 5 → V (55 + 5 * (16 * b + r) + x) = A (55 + 5 * (16 * b + r) + x) := fun r x hr h2 h5 => ih _ (fun b' _ _ => by omega) (ms_TX_x h2 h5)
    cases hs : sv b with
    | some q =>
      obtain ⟨r, hr, e⟩ := t2 q hs
      rw [e]
      have e1 : mc_one V b (wi b) (some q) (Int32.ofNat r) = mc_serve V b q r := by
        show mc_serve V b q (Int32.ofNat r).toNatClampNeg = _
        rw [ni_c (by omega)]
      have e2 : ms_one A b (wi b) (g b) (some q) (Int32.ofNat r) = ms_serve (ev_u1 (ev_u1 A (19 + 9 * b + 6) (Int32.ofNat (wi b))) (19 + 9 * b + 7) (ms_b01 (g b))) b q r := by
        show ms_serve _ b q (Int32.ofNat r).toNatClampNeg = _
        rw [ni_c (by omega)]
      rw [e1, e2]
      refine ⟨fun k hk hx => ?_, fun b' r' hb' hr' hto => ?_⟩
      · have x1 := hx b r (by omega) hr e
        have gk := fun a1 a2 => go k hk a1 a2 hx
        unfold mc_serve ms_serve
        by_cases k6 : k = 19 + 9 * b + 6
        · subst k6
          simp (disch := omega) only [u1n, u1s, v6]
        by_cases k7 : k = 19 + 9 * b + 7
        · subst k7
          simp (disch := omega) only [u1n, u1s, v7]
        by_cases k3 : k = 55 + 5 * (16 * b + r) + 3
        · subst k3
          simp (disch := omega) only [u1n, u1s, rw' r 3 hr]
        by_cases kq3 : k = 375 + 6 * q + 3
        · subst kq3
          simp (disch := omega) only [u1n, u1s]
        by_cases kq4 : k = 375 + 6 * q + 4
        · subst kq4
          simp (disch := omega) only [u1n, u1s, lo 8]
        by_cases k1 : k = 19 + 9 * b + 1
        · subst k1
          simp (disch := omega) only [u1n, u1s, bk 1, lo 4]
        by_cases k2 : k = 19 + 9 * b + 2
        · subst k2
          simp (disch := omega) only [u1n, u1s, bk 2]
        by_cases k16 : k = 16
        · subst k16
          simp (disch := omega) only [u1n, u1s, lo 16]
        by_cases k17 : k = 17
        · subst k17
          simp (disch := omega) only [u1n, u1s, lo 17, lo 8, hi (375 + 6 * q + 2)]
        by_cases k18 : k = 18
        · subst k18
          simp (disch := omega) only [u1n, u1s, lo 18, lo 8, hi (375 + 6 * q + 2)]
          exact ms_max
        simp (disch := omega) only [u1n]
        exact gk k6 k7
      · unfold mc_serve
        by_cases z : b' = b
        · subst z
          have er : r' = r := by
            rw [e] at hto
            have := (ni_eq (by omega) (by omega)).mp hto
            omega
          subst er
          simp (disch := omega) only [u1n, u1s, and_self]
        · have := ihz b' r' (by omega) hr' hto
          simp (disch := omega) only [u1n, this, and_self]
    | none =>
      by_cases hm : to b = -1
      · have e1 : mc_one V b (wi b) none (to b) = V := if_pos hm
        have e2 : ms_one A b (wi b) (g b) none (to b) = ev_u1 (ev_u1 A (19 + 9 * b + 6) (Int32.ofNat (wi b))) (19 + 9 * b + 7) (ms_b01 (g b)) := if_pos hm
        rw [e1, e2]
        refine ⟨fun k hk hx => ?_, fun b' r' hb' hr' hto => ?_⟩
        · by_cases k6 : k = 19 + 9 * b + 6
          · subst k6
            simp (disch := omega) only [u1n, u1s, v6]
          by_cases k7 : k = 19 + 9 * b + 7
          · subst k7
            simp (disch := omega) only [u1n, u1s, v7]
          simp (disch := omega) only [u1n]
          exact go k hk k6 k7 hx
        · have z : b' ≠ b := fun z => by
            subst z
            rw [hm] at hto
            exact ms_en_ne (f := r') (by omega) hto.symm
          exact ihz b' r' (by omega) hr' hto
      · obtain ⟨r, hr, e⟩ := t1.resolve_left hm
        have e1 : mc_one V b (wi b) none (to b) = mc_refresh V b r (wi b = 1) := by
          show (if to b = -1 then V else mc_refresh V b (to b).toNatClampNeg (wi b = 1)) = _
          rw [if_neg hm, e, ni_c (by omega)]
        have e2 : ms_one A b (wi b) (g b) none (to b) = ms_refresh (ev_u1 (ev_u1 A (19 + 9 * b + 6) (Int32.ofNat (wi b))) (19 + 9 * b + 7) (ms_b01 (g b))) b r (wi b = 1) := by
          show (if to b = -1 then _ else ms_refresh _ b (to b).toNatClampNeg (wi b = 1)) = _
          rw [if_neg hm, e, ni_c (by omega)]
        rw [e1, e2]
        refine ⟨fun k hk hx => ?_, fun b' r' hb' hr' hto => ?_⟩
        · have x1 := hx b r (by omega) hr e
          have gk := fun a1 a2 => go k hk a1 a2 hx
          unfold mc_refresh ms_refresh
          by_cases k6 : k = 19 + 9 * b + 6
          · subst k6
            by_cases u : wi b = 1
            · rw [if_pos u]
              simp (disch := omega) only [u1n, u1s, v6]
            · rw [if_neg u]
              simp (disch := omega) only [u1n, u1s, v6]
          by_cases k7 : k = 19 + 9 * b + 7
          · subst k7
            by_cases u : wi b = 1
            · rw [if_pos u]
              simp (disch := omega) only [u1n, u1s, v7]
            · rw [if_neg u]
              simp (disch := omega) only [u1n, u1s, v7]
          by_cases k2 : k = 55 + 5 * (16 * b + r) + 2
          · subst k2
            by_cases u : wi b = 1
            · rw [if_pos u]
              simp (disch := omega) only [u1n, u1s, rw' r 2 hr]
            · rw [if_neg u]
              simp (disch := omega) only [u1n, u1s, rw' r 2 hr]
          by_cases k3 : k = 19 + 9 * b + 3
          · subst k3
            by_cases u : wi b = 1
            · rw [if_pos u]
              simp (disch := omega) only [u1n, u1s, bk 3]
            · rw [if_neg u]
              simp (disch := omega) only [u1n, u1s, bk 3]
          by_cases k0 : k = 19 + 9 * b + 0
          · subst k0
            by_cases u : wi b = 1
            · rw [if_pos u]
              simp (disch := omega) only [u1n, u1s, bk 0, Int32.sub_eq_add_neg]
            · rw [if_neg u]
              simp (disch := omega) only [u1n, u1s, bk 0, Int32.sub_eq_add_neg]
          by_cases k12 : k = 12
          · subst k12
            by_cases u : wi b = 1
            · rw [if_pos u]
              simp (disch := omega) only [u1n, u1s, lo 12]
            · rw [if_neg u]
              simp (disch := omega) only [u1n, u1s, lo 12]
          by_cases k13 : k = 13
          · subst k13
            by_cases u : wi b = 1
            · rw [if_pos u, if_pos u]
              simp (disch := omega) only [u1n, u1s, lo 13]
            · rw [if_neg u, if_neg u]
              simp (disch := omega) only [u1n, u1s, lo 13, Int32.add_zero]
          by_cases u : wi b = 1
          · rw [if_pos u]
            simp (disch := omega) only [u1n]
            exact gk k6 k7
          · rw [if_neg u]
            simp (disch := omega) only [u1n]
            exact gk k6 k7
        · unfold mc_refresh
          by_cases z : b' = b
          · subst z
            have er : r' = r := by
              rw [e] at hto
              have := (ni_eq (by omega) (by omega)).mp hto
              omega
            subst er
            by_cases u : wi b' = 1
            · rw [if_pos u]
              simp (disch := omega) only [u1n, u1s, and_self]
            · rw [if_neg u]
              simp (disch := omega) only [u1n, u1s, and_self]
          · have := ihz b' r' (by omega) hr' hto
            by_cases u : wi b = 1
            · rw [if_pos u]
              simp (disch := omega) only [u1n, this, and_self]
            · rw [if_neg u]
              simp (disch := omega) only [u1n, this, and_self]
