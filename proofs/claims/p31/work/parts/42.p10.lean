/-! THE LAW'S METHODS, 10: draws, and the second Memory -/
theorem dr_mod {y : Int32} {m : Nat} (h0 : 0 ≤ y.toInt) (h1 : 1 ≤ m) (h2 : m ≤ 1000) : ∃ k, k < m ∧ y - y / Int32.ofNat m * Int32.ofNat m = Int32.ofNat k := by
  have hm : (Int32.ofNat m).toInt = (m : Int) := ni_t (by omega)
  have hy := Int32.toInt_lt y
  have hd : (y / Int32.ofNat m).toInt = y.toInt / (m : Int) := by
    rw [Int32.toInt_div, hm, Int.tdiv_eq_ediv_of_nonneg h0]
    have a1 : 0 ≤ y.toInt / (m : Int) := Int.ediv_nonneg h0 (by omega)
    have a2 : y.toInt / (m : Int) ≤ y.toInt := Int.ediv_le_self _ h0
    rw [Int.bmod_eq_of_le] <;> omega
  have hle : y.toInt / (m : Int) * (m : Int) ≤ y.toInt := Int.ediv_mul_le _ (by omega)
  have hnn : 0 ≤ y.toInt / (m : Int) * (m : Int) := Int.mul_nonneg (Int.ediv_nonneg h0 (by omega)) (by omega)
  have hmu : (y / Int32.ofNat m * Int32.ofNat m).toInt = y.toInt / (m : Int) * (m : Int) := by
    rw [i32_mul] <;> rw [hd, hm] <;> omega
  have hs : (y - y / Int32.ofNat m * Int32.ofNat m).toInt = y.toInt % (m : Int) := by
    rw [i32_sub] <;> rw [hmu]
    · have := Int.mul_ediv_add_emod y.toInt (m : Int)
      rw [Int.mul_comm] at this
      omega
    · omega
    · omega
  have b1 := Int.emod_nonneg y.toInt (show (m : Int) ≠ 0 by omega)
  have b2 := Int.emod_lt_of_pos y.toInt (show (0 : Int) < m by omega)
  refine ⟨(y.toInt % (m : Int)).toNat, by omega, Int32.toInt_inj.mp ?_⟩
  rw [hs, ni_t (by omega)]
  omega
theorem dr_pos (x : Int32) : 0 ≤ ((x.toUInt32 >>> (((8 : Int32)).toUInt32 &&& Int32.toUInt32 31)).toInt32).toInt := by
  have e : (((8 : Int32)).toUInt32 &&& Int32.toUInt32 31) = 8 := by decide
  rw [e]
  have h : (x.toUInt32 >>> 8).toNat < 2 ^ 24 := by
    rw [UInt32.toNat_shiftRight]
    have := x.toUInt32.toNat_lt
    simp [Nat.shiftRight_eq_div_pow]
    omega
  rw [show ((x.toUInt32 >>> 8).toInt32).toInt = ((x.toUInt32 >>> 8).toNat : Int) from ?_]
  · omega
  · generalize x.toUInt32 >>> 8 = u at h
    show u.toBitVec.toInt = (u.toBitVec.toNat : Int)
    have h' : u.toBitVec.toNat < 2 ^ 24 := h
    rw [BitVec.toInt_eq_toNat_bmod, Int.bmod_eq_of_le] <;> omega
section DR
variable {n : Nat} {lk : Nat → Nat → Nat → Bool} {d : Nat → Nat → Nat → Int32} {wn : Nat} {tt : Nat → Nat} {e : Nat → Nat → Nat → Int32} {q : Nat → Nat → Nat → Nat}
theorem lw_draw {j m : Nat} (h1 : 1 ≤ m) (h2 : m ≤ 1000) : ∃ k e', k < m ∧ EV (276, 0, [ev_R 208 j, ev_I (Int32.ofNat m)], [], 0, 0) (n, lk, d, wn, tt, e, q) = some (.inl (some (ev_I (Int32.ofNat k))), (n, lk, d, wn, tt, e', q)) ∧ ∀ r x p, ¬ (r = 208 ∧ x = j) → e' r x p = e r x p := by
  obtain ⟨k, hk, ek⟩ := dr_mod (m := m) (dr_pos (ev_u3 e 208 j 0 (((e 208 j 0) * (1664525 : Int32)) + (1013904223 : Int32)) 208 j 0)) h1 h2
  refine ⟨k, ev_u3 e 208 j 0 (((e 208 j 0) * (1664525 : Int32)) + (1013904223 : Int32)), hk, EV_bk (k := 400) ?_, fun r x p h => u3_ne (fun z => h ⟨z.1, z.2.1⟩)⟩
  rw [bk_276_0, if_neg (fun z => by have := (ni_eq (b := 0) (by omega) (by omega)).mp z; omega), ek]
end DR
