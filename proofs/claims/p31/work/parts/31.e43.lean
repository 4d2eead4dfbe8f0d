/-! THE PROGRAM AGAINST THE REFERENCE, 29: calls that are refused -/
theorem ni_of {x : Int32} {n : Nat} (hn : n < 2147483648) (h0 : 0 ≤ x) (h : x < Int32.ofNat n) : ∃ k, k < n ∧ x = Int32.ofNat k := by
  rw [i32_le, show (0 : Int32).toInt = 0 from by decide] at h0
  rw [i32_lt, ni_t hn] at h
  refine ⟨x.toInt.toNat, by omega, ?_⟩
  rw [← Int32.toInt_inj, ni_t (by omega)]
  omega
theorem ni_lo {k : Nat} (hk : k < 2147483648) : (0 : Int32) ≤ Int32.ofNat k := (ni_le (a := 0) (by omega) hk).mpr (Nat.zero_le _)
theorem i32_pred {x : Int32} {n : Nat} (hn : n < 2147483648) : (x ≤ Int32.ofNat n - 1) ↔ x < Int32.ofNat n := by
  rw [i32_le, i32_lt, i32_sub, ni_t hn, show (1 : Int32).toInt = 1 from by decide]
  · omega
  · rw [ni_t hn, show (1 : Int32).toInt = 1 from by decide]; omega
  · rw [ni_t hn, show (1 : Int32).toInt = 1 from by decide]; omega
section EC18
variable {n : Nat} {lk : Nat → Nat → Nat → Bool} {d : Nat → Nat → Nat → Int32} {o : ev_W}
theorem em_in {x a b : Int32} {μ : ev_M} (h : a ≤ x ∧ x ≤ b) : EV (129, 0, [ev_I x, ev_I a, ev_I b], [], 0, 0) μ = some (.inl (some (ev_I 1)), μ) := by rw [em_129, if_pos h]
theorem em_out {x a b : Int32} {μ : ev_M} (h : ¬ (a ≤ x ∧ x ≤ b)) : EV (129, 0, [ev_I x, ev_I a, ev_I b], [], 0, 0) μ = some (.inl (some (ev_I 0)), μ) := by rw [em_129, if_neg h]
theorem ec_hasBank1 {i : Nat} {x : Int32} (h : 0 ≤ x ∧ x < d 24 i 0) : EV (27, 0, [ev_R 24 i, ev_I x], [], 0, 0) (n, lk, d, o) = some (.inl (some (ev_I 1)), (n, lk, d, o)) := by rw [ec_hasBank]; simp only []; rw [if_pos h]
theorem ec_hasBank0 {i : Nat} {x : Int32} (h : ¬ (0 ≤ x ∧ x < d 24 i 0)) : EV (27, 0, [ev_R 24 i, ev_I x], [], 0, 0) (n, lk, d, o) = some (.inl (some (ev_I 0)), (n, lk, d, o)) := by rw [ec_hasBank]; simp only []; rw [if_neg h]
theorem ec_hasRow1 {i : Nat} {x : Int32} (h : 0 ≤ x ∧ x < d 24 i 1) : EV (28, 0, [ev_R 24 i, ev_I x], [], 0, 0) (n, lk, d, o) = some (.inl (some (ev_I 1)), (n, lk, d, o)) := by rw [ec_hasRow]; simp only []; rw [if_pos h]
theorem ec_hasRow0 {i : Nat} {x : Int32} (h : ¬ (0 ≤ x ∧ x < d 24 i 1)) : EV (28, 0, [ev_R 24 i, ev_I x], [], 0, 0) (n, lk, d, o) = some (.inl (some (ev_I 0)), (n, lk, d, o)) := by rw [ec_hasRow]; simp only []; rw [if_neg h]
theorem ec_has1 {i : Nat} {x : Int32} (h : 0 ≤ x ∧ x < d 17 i 0) : EV (46, 0, [ev_R 17 i, ev_I x], [], 0, 0) (n, lk, d, o) = some (.inl (some (ev_I 1)), (n, lk, d, o)) := by rw [ec_has]; simp only []; rw [if_pos h]
theorem ec_has0 {i : Nat} {x : Int32} (h : ¬ (0 ≤ x ∧ x < d 17 i 0)) : EV (46, 0, [ev_R 17 i, ev_I x], [], 0, 0) (n, lk, d, o) = some (.inl (some (ev_I 0)), (n, lk, d, o)) := by rw [ec_has]; simp only []; rw [if_neg h]
theorem em_throws0 {k : Int32} (h0 : d 44 0 0 = 0) : EV (130, 0, [ev_R 44 0, ev_I 0, ev_I k], [], 0, 0) (n, lk, d, o) = some (.inl (some (ev_I 0)), (n, lk, d, o)) := by
  refine EV_bk (k := 400) ?_
  rw [bk_130_0, if_pos h0, if_pos rfl, if_pos (by rw [h0]; decide)]
theorem em_throws1 {k : Int32} (h0 : d 44 0 0 = 0) (hk : 0 < k) : EV (130, 0, [ev_R 44 0, ev_I 1, ev_I k], [], 0, 0) (n, lk, d, o) = some (.inl (some (ev_I 1)), (n, lk, ev_u3 d 44 0 0 k, o)) := by
  refine EV_bk (k := 400) ?_
  rw [bk_130_0, if_pos h0, if_neg (by decide), if_neg (by rw [u3s]; exact Int32.not_le.mpr hk)]
theorem em_thrown : EV (128, 0, [ev_R 44 0], [], 0, 0) (n, lk, d, o) = some (.inl (some (ev_I (d 44 0 0))), (n, lk, d, o)) := by
  refine EV_bk (k := 400) ?_
  rw [bk_128_0]
/-- no(k, many): nothing is thrown yet -/
theorem em_no {x : Int32} {m : Nat} (hm : m < 1000) (h0 : d 44 0 0 = 0) : EV (193, 0, [ev_R 44 0, ev_I x, ev_I (Int32.ofNat m)], [], 0, 0) (n, lk, d, o) =
    some (if 0 ≤ x ∧ x < Int32.ofNat m then (.inl (some (ev_I 0)), (n, lk, d, o)) else (.inl (some (ev_I 1)), (n, lk, ev_u3 d 44 0 0 1, o))) := by
  refine EV_bk (k := 400) ?_
  rw [bk_193_0]
  by_cases z : 0 ≤ x ∧ x < Int32.ofNat m
  · rw [if_pos z, em_in ⟨z.1, (i32_pred (by omega)).mpr z.2⟩]
    simp only [ev_bi]
    rw [if_neg (by decide), em_throws0 h0]
    rfl
  · rw [if_neg z, em_out (fun y => z ⟨y.1, (i32_pred (by omega)).mp y.2⟩)]
    simp only [ev_bi]
    rw [if_pos trivial, em_throws1 h0 (by decide)]
    rfl
theorem em_noBank (hl : LK lk) {x : Int32} {B : Nat} (hB : d 45 0 0 = Int32.ofNat B) (h4 : B ≤ 4) : EV (194, 0, [ev_R 44 0, ev_I x], [], 0, 0) (n, lk, d, o) =
    some (if 0 ≤ x ∧ x < Int32.ofNat B then (.inl (some (ev_I 0)), (n, lk, ev_u3 d 44 0 0 0, o)) else (.inl (some (ev_I 1)), (n, lk, ev_u3 d 44 0 0 1, o))) := by
  refine EV_bk (k := 400) ?_
  rw [bk_194_0, hl 44 0 1 rfl (by decide) (by decide), cond_true, hB, em_no (by omega) u3s]
  by_cases z : 0 ≤ x ∧ x < Int32.ofNat B
  · rw [if_pos z, if_pos z]
    rfl
  · rw [if_neg z, if_neg z]
    simp only [u3w, w3s, w3w]
    have : ev_u1 (ev_u1 (d 44 0) 0 0) 0 1 = ev_u1 (d 44 0) 0 1 := funext fun j => by
      unfold ev_u1
      split <;> rfl
    rw [this]
    rfl
theorem u3u {d : Nat → Nat → Nat → Int32} {r i k : Nat} {v v' : Int32} : ev_u3 (ev_u3 d r i k v) r i k v' = ev_u3 d r i k v' := by
  simp only [u3w, w3s, w3w]
  have : ev_u1 (ev_u1 (d r i) k v) k v' = ev_u1 (d r i) k v' := funext fun j => by
    unfold ev_u1
    split <;> rfl
  rw [this]
theorem em_noRow (hl : LK lk) {x y : Int32} {B R : Nat} (hB : d 45 0 0 = Int32.ofNat B) (h4 : B ≤ 4) (hR : d 45 0 1 = Int32.ofNat R) (h16 : R ≤ 16) : EV (195, 0, [ev_R 44 0, ev_I x, ev_I y], [], 0, 0) (n, lk, d, o) =
    some (if (0 ≤ x ∧ x < Int32.ofNat B) ∧ (0 ≤ y ∧ y < Int32.ofNat R) then (.inl (some (ev_I 0)), (n, lk, ev_u3 d 44 0 0 0, o)) else (.inl (some (ev_I 1)), (n, lk, ev_u3 d 44 0 0 1, o))) := by
  refine EV_bk (k := 400) ?_
  rw [bk_195_0, em_noBank hl hB h4]
  by_cases z : 0 ≤ x ∧ x < Int32.ofNat B
  · rw [if_pos z]
    simp only [ev_bi]
    rw [if_pos trivial, hl 44 0 1 rfl (by decide) (by decide), cond_true, u3n (by decide), hR, em_no (by omega) u3s]
    by_cases z2 : 0 ≤ y ∧ y < Int32.ofNat R
    · rw [if_pos z2, if_pos ⟨z, z2⟩]
      rfl
    · rw [if_neg z2, if_neg (fun v => z2 v.2), u3u]
      rfl
  · rw [if_neg z, if_neg (fun v => z v.1)]
    rfl
theorem em_noRequest (hl : LK lk) {x : Int32} {C : Nat} (hC : d 46 0 9 = Int32.ofNat C) (h40 : C ≤ 40) : EV (196, 0, [ev_R 44 0, ev_I x], [], 0, 0) (n, lk, d, o) =
    some (if 0 ≤ x ∧ x < Int32.ofNat C then (.inl (some (ev_I 0)), (n, lk, ev_u3 d 44 0 0 0, o)) else (.inl (some (ev_I 1)), (n, lk, ev_u3 d 44 0 0 1, o))) := by
  refine EV_bk (k := 400) ?_
  rw [bk_196_0, hl 44 0 2 rfl (by decide) (by decide), cond_true, hC, em_no (by omega) u3s]
  by_cases z : 0 ≤ x ∧ x < Int32.ofNat C
  · rw [if_pos z, if_pos z]
    rfl
  · rw [if_neg z, if_neg z, u3u]
    rfl
theorem em_noSlot {x : Int32} : EV (221, 0, [ev_R 44 0, ev_I x], [], 0, 0) (n, lk, d, o) =
    some (if 0 ≤ x ∧ x < Int32.ofNat 2 then (.inl (some (ev_I 0)), (n, lk, ev_u3 d 44 0 0 0, o)) else (.inl (some (ev_I 1)), (n, lk, ev_u3 d 44 0 0 1, o))) := by
  refine EV_bk (k := 400) ?_
  have h := em_no (n := n) (lk := lk) (o := o) (d := ev_u3 d 44 0 0 0) (x := x) (m := 2) (by omega) u3s
  have h' : EV (193, 0, [ev_R 44 0, ev_I x, ev_I 2], [], 0, 0) (n, lk, ev_u3 d 44 0 0 0, o) = _ := h
  rw [bk_221_0, h']
  by_cases z : 0 ≤ x ∧ x < Int32.ofNat 2
  · rw [if_pos z, if_pos z]
    rfl
  · rw [if_neg z, if_neg z, u3u]
    rfl
theorem em_noSetting {x : Int32} : EV (191, 0, [ev_R 44 0, ev_I x], [], 0, 0) (n, lk, d, o) =
    some (if 0 ≤ x ∧ x ≤ 6 then (.inl (some (ev_I 0)), (n, lk, ev_u3 d 44 0 0 0, o)) else (.inl (some (ev_I 1)), (n, lk, ev_u3 d 44 0 0 1, o))) := by
  refine EV_bk (k := 400) ?_
  rw [bk_191_0]
  by_cases z : 0 ≤ x ∧ x ≤ 6
  · rw [if_pos z, em_in z]
    simp only [ev_bi]
    rw [if_neg (by decide), em_throws0 u3s]
    rfl
  · rw [if_neg z, em_out z]
    simp only [ev_bi]
    rw [if_pos trivial, em_throws1 u3s (by decide), u3u]
    rfl
theorem em_noTicks {x : Int32} (h0 : d 44 0 0 = 0) : EV (204, 0, [ev_R 44 0, ev_I x], [], 0, 0) (n, lk, d, o) =
    some (if 1 ≤ x ∧ x ≤ 300 then (.inl (some (ev_I 0)), (n, lk, d, o)) else (.inl (some (ev_I 1)), (n, lk, ev_u3 d 44 0 0 1, o))) := by
  refine EV_bk (k := 400) ?_
  rw [bk_204_0]
  by_cases z : 1 ≤ x ∧ x ≤ 300
  · rw [if_pos z, em_in z]
    simp only [ev_bi]
    rw [if_neg (by decide), em_throws0 h0]
    rfl
  · rw [if_neg z, em_out z]
    simp only [ev_bi]
    rw [if_pos trivial, em_throws1 h0 (by decide)]
    rfl
theorem em_lowOf {μ : ev_M} {k : Nat} (hk : k < 7) : EV (131, 0, [ev_I (Int32.ofNat k)], [], 0, 0) μ = some (.inl (some (ev_I (ev_sa 0 k))), μ) := by
  obtain ⟨n, lk, d, o⟩ := μ
  refine EV_bk (k := 400) ?_
  rw [bk_131_0]
  match k, hk with
  | 0, _ => rfl
  | 1, _ => rfl
  | 2, _ => rfl
  | 3, _ => rfl
  | 4, _ => rfl
  | 5, _ => rfl
  | 6, _ => rfl
theorem em_highOf {μ : ev_M} {k : Nat} (hk : k < 7) : EV (132, 0, [ev_I (Int32.ofNat k)], [], 0, 0) μ = some (.inl (some (ev_I (ev_sa 1 k))), μ) := by
  obtain ⟨n, lk, d, o⟩ := μ
  refine EV_bk (k := 400) ?_
  rw [bk_132_0]
  match k, hk with
  | 0, _ => rfl
  | 1, _ => rfl
  | 2, _ => rfl
  | 3, _ => rfl
  | 4, _ => rfl
  | 5, _ => rfl
  | 6, _ => rfl
/-! the program's own refusals -/
theorem ec_reqBank (hl : LK lk) {x : Int32} {B : Nat} (hn : 384 ≤ n) (hB : d 24 1 0 = Int32.ofNat B) : EV (115, 0, [ev_R 27 0, ev_I x], [], 0, 0) (n, lk, d, o) =
    some (if 0 ≤ x ∧ x < Int32.ofNat B then (.inl none, (n, lk, d, o)) else (.inr 1, (n + 1000, lk, d, o))) := by
  refine EV_bk (k := 400) ?_
  rw [bk_115_0, hl 27 0 3 rfl (by decide) (by decide), cond_true]
  by_cases z : 0 ≤ x ∧ x < Int32.ofNat B
  · rw [if_pos z, ec_hasBank1 (by rw [hB]; exact z)]
    simp only [ev_bi]
    rw [if_neg (by decide)]
  · rw [if_neg z, ec_hasBank0 (by rw [hB]; exact z)]
    simp only [ev_bi]
    rw [if_pos trivial, Nat.ble_eq.mpr hn, cond_true]
theorem ec_reqRow (hl : LK lk) {x y : Int32} {B R : Nat} (hn : 384 ≤ n) (hB : d 24 1 0 = Int32.ofNat B) (hR : d 24 1 1 = Int32.ofNat R) : EV (116, 0, [ev_R 27 0, ev_I x, ev_I y], [], 0, 0) (n, lk, d, o) =
    some (if (0 ≤ x ∧ x < Int32.ofNat B) ∧ (0 ≤ y ∧ y < Int32.ofNat R) then (.inl none, (n, lk, d, o)) else (.inr 1, (n + 1000, lk, d, o))) := by
  refine EV_bk (k := 400) ?_
  rw [bk_116_0, hl 27 0 3 rfl (by decide) (by decide), cond_true]
  by_cases z : 0 ≤ x ∧ x < Int32.ofNat B
  · rw [ec_hasBank1 (by rw [hB]; exact z)]
    simp only [ev_bi]
    rw [if_neg (by decide), hl 27 0 3 rfl (by decide) (by decide), cond_true]
    by_cases z2 : 0 ≤ y ∧ y < Int32.ofNat R
    · rw [if_pos ⟨z, z2⟩, ec_hasRow1 (by rw [hR]; exact z2)]
      simp only []
      rw [if_neg (by decide)]
    · rw [if_neg (fun v => z2 v.2), ec_hasRow0 (by rw [hR]; exact z2)]
      simp only []
      rw [if_pos trivial, Nat.ble_eq.mpr hn, cond_true]
  · rw [if_neg (fun v => z v.1), ec_hasBank0 (by rw [hB]; exact z)]
    simp only [ev_bi]
    rw [if_pos trivial, Nat.ble_eq.mpr hn, cond_true]
theorem ec_reqRequest (hl : LK lk) {x : Int32} {C : Nat} (hn : 384 ≤ n) (hC : d 17 1 0 = Int32.ofNat C) : EV (117, 0, [ev_R 27 0, ev_I x], [], 0, 0) (n, lk, d, o) =
    some (if 0 ≤ x ∧ x < Int32.ofNat C then (.inl none, (n, lk, d, o)) else (.inr 1, (n + 1000, lk, d, o))) := by
  refine EV_bk (k := 400) ?_
  rw [bk_117_0, hl 27 0 4 rfl (by decide) (by decide), cond_true, show lk 0 1 8 = true from hl 0 1 8 rfl (by decide) (by decide), cond_true]
  by_cases z : 0 ≤ x ∧ x < Int32.ofNat C
  · rw [if_pos z, ec_has1 (by rw [hC]; exact z)]
    simp only [ev_bi]
    rw [if_neg (by decide)]
  · rw [if_neg z, ec_has0 (by rw [hC]; exact z)]
    simp only [ev_bi]
    rw [if_pos trivial, Nat.ble_eq.mpr hn, cond_true]
theorem ec_reqSlot {x : Int32} (hn : 384 ≤ n) : EV (118, 0, [ev_R 27 0, ev_I x], [], 0, 0) (n, lk, d, o) =
    some (if 0 ≤ x ∧ x < Int32.ofNat 2 then (.inl none, (n, lk, d, o)) else (.inr 1, (n + 1000, lk, d, o))) := by
  refine EV_bk (k := 400) ?_
  rw [bk_118_0, Nat.ble_eq.mpr hn, cond_true]
  by_cases z : x < 0
  · rw [if_pos z, if_neg (fun v => Int32.not_le.mpr z v.1)]
  · rw [if_neg z]
    by_cases z2 : x < Int32.ofNat 2
    · have z3 : x < 2 := z2
      have z4 : 0 ≤ x ∧ x < Int32.ofNat 2 := ⟨Int32.not_lt.mp z, z2⟩
      rw [if_pos z3, if_pos z4]
    · have z3 : ¬ x < 2 := z2
      have z4 : ¬ (0 ≤ x ∧ x < Int32.ofNat 2) := fun v => z2 v.2
      rw [if_neg z3, if_neg z4]
theorem ec_reqTicks {x : Int32} (hn : 384 ≤ n) : EV (119, 0, [ev_R 27 0, ev_I x], [], 0, 0) (n, lk, d, o) =
    some (if 1 ≤ x ∧ x ≤ 300 then (.inl none, (n, lk, d, o)) else (.inr 0, (n + 1000, lk, d, o))) := by
  refine EV_bk (k := 400) ?_
  rw [bk_119_0, Nat.ble_eq.mpr hn, cond_true]
  by_cases z : x < 1
  · rw [if_pos z, if_neg (fun v => Int32.not_le.mpr z v.1)]
  · rw [if_neg z]
    by_cases z2 : x ≤ 300
    · rw [if_pos z2, if_pos ⟨Int32.not_lt.mp z, z2⟩]
    · rw [if_neg z2, if_neg (fun v => z2 v.2)]
end EC18
