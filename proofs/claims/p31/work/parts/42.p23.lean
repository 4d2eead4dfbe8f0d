/-! THE LAW'S METHODS, 23: bytes in words, and out of them -/
theorem ac_in {a c : Nat} (ha : a < 8388608) (hc : c < 256) : (Int32.ofNat a <<< ((8 : Int32) &&& 31)) ||| Int32.ofNat c = Int32.ofNat (256 * a + c) := by
  rw [show ((8 : Int32) &&& 31) = 8 from by decide]
  apply Int32.toBitVec_inj.mp
  apply BitVec.eq_of_toNat_eq
  rw [Int32.toBitVec_or, Int32.toBitVec_shiftLeft]
  show ((BitVec.ofNat 32 a <<< 8) ||| BitVec.ofNat 32 c).toNat = (BitVec.ofNat 32 (256 * a + c)).toNat
  rw [BitVec.toNat_or, BitVec.toNat_shiftLeft, BitVec.toNat_ofNat, BitVec.toNat_ofNat, BitVec.toNat_ofNat, Nat.mod_eq_of_lt (show a < 2 ^ 32 by omega), Nat.mod_eq_of_lt (show c < 2 ^ 32 by omega), Nat.mod_eq_of_lt (show 256 * a + c < 2 ^ 32 by omega), Nat.mod_eq_of_lt (show a <<< 8 < 2 ^ 32 by rw [Nat.shiftLeft_eq]; omega), ← Nat.shiftLeft_add_eq_or_of_lt (show c < 2 ^ 8 by omega), Nat.shiftLeft_eq]
  omega
theorem b8_all : ∀ r, r < 128 → (Int8.ofNat r).toInt32.toInt8.toInt32 = Int32.ofNat r := by decide +kernel
theorem b8_mod (x : Nat) : (Int32.ofNat x).toInt8 = Int8.ofNat (x % 256) := by
  apply Int8.toBitVec_inj.mp
  apply BitVec.eq_of_toNat_eq
  show ((BitVec.ofNat 32 x).signExtend 8).toNat = (BitVec.ofNat 8 (x % 256)).toNat
  rw [BitVec.signExtend_eq_setWidth_of_le _ (by decide), BitVec.toNat_setWidth, BitVec.toNat_ofNat, BitVec.toNat_ofNat]
  omega
theorem sh_nat {x k : Nat} (hx : x < 2147483648) (hk : k < 32) : Int32.ofNat x >>> Int32.ofNat k = Int32.ofNat (x / 2 ^ k) := by
  apply Int32.toBitVec_inj.mp
  rw [Int32.toBitVec_shiftRight]
  have e1 : ((Int32.ofNat k).toBitVec.smod 32).toNat = k := by
    have all : ∀ k, k < 32 → ((Int32.ofNat k).toBitVec.smod 32).toNat = k := by decide +kernel
    exact all k hk
  show (BitVec.ofNat 32 x).sshiftRight ((Int32.ofNat k).toBitVec.smod 32).toNat = BitVec.ofNat 32 (x / 2 ^ k)
  rw [e1, BitVec.sshiftRight_eq_of_msb_false (BitVec.msb_eq_false_iff_two_mul_lt.mpr (by rw [BitVec.toNat_ofNat, Nat.mod_eq_of_lt (by omega)]; omega))]
  apply BitVec.eq_of_toNat_eq
  have : x / 2 ^ k ≤ x := Nat.div_le_self _ _
  rw [BitVec.toNat_ushiftRight, BitVec.toNat_ofNat, BitVec.toNat_ofNat, Nat.mod_eq_of_lt (show x < 2 ^ 32 by omega), Nat.mod_eq_of_lt (show x / 2 ^ k < 2 ^ 32 by omega), Nat.shiftRight_eq_div_pow]
theorem bx_nat {x k : Nat} (hx : x < 2147483648) (hk : k < 32) (hb : x / 2 ^ k % 256 < 128) : ms_bx (Int32.ofNat x) (Int32.ofNat k) = Int32.ofNat (x / 2 ^ k % 256) := by
  have e1 : (Int32.ofNat k &&& 31) = Int32.ofNat k := by
    have all : ∀ k, k < 32 → (Int32.ofNat k &&& 31) = Int32.ofNat k := by decide +kernel
    exact all k hk
  unfold ms_bx
  rw [e1, sh_nat hx hk, b8_mod, b8_all _ hb]
/-- four bytes, or the first m of them, as one number -/
def ac (P : Nat → Nat) (b : Nat) : Nat → Nat
  | 0 => 0
  | m + 1 => 256 * ac P b m + P (b + m)
theorem ac_wr {P : Nat → Nat} {b L : Nat} {f : Nat → Int32} (hP : ∀ k, P k < 128) : ∀ k, ms_wr f L (Int32.ofNat (ac P b 4)) k = if L ≤ k ∧ k < L + 4 then Int32.ofNat (P (b + (k - L))) else f k := by
  have p0 := hP b
  have p1 := hP (b + 1)
  have p2 := hP (b + 2)
  have p3 := hP (b + 3)
  have e : ac P b 4 = 256 * (256 * (256 * (256 * 0 + P (b + 0)) + P (b + 1)) + P (b + 2)) + P (b + 3) := rfl
  rw [Nat.add_zero] at e
  have q0 : ac P b 4 / 2 ^ 24 % 256 = P b := by rw [e]; omega
  have q1 : ac P b 4 / 2 ^ 16 % 256 = P (b + 1) := by rw [e]; omega
  have q2 : ac P b 4 / 2 ^ 8 % 256 = P (b + 2) := by rw [e]; omega
  have q3 : ac P b 4 / 2 ^ 0 % 256 = P (b + 3) := by rw [e]; omega
  have h : ac P b 4 < 2147483648 := by rw [e]; omega
  have r0 : ms_bx (Int32.ofNat (ac P b 4)) 24 = Int32.ofNat (P b) := (bx_nat (k := 24) h (by decide) (by omega)).trans (by rw [q0])
  have r1 : ms_bx (Int32.ofNat (ac P b 4)) 16 = Int32.ofNat (P (b + 1)) := (bx_nat (k := 16) h (by decide) (by omega)).trans (by rw [q1])
  have r2 : ms_bx (Int32.ofNat (ac P b 4)) 8 = Int32.ofNat (P (b + 2)) := (bx_nat (k := 8) h (by decide) (by omega)).trans (by rw [q2])
  have r3 : ms_bx (Int32.ofNat (ac P b 4)) 0 = Int32.ofNat (P (b + 3)) := (bx_nat (k := 0) h (by decide) (by omega)).trans (by rw [q3])
  intro k
  unfold ms_wr
  rw [r0, r1, r2, r3]
  by_cases c : L ≤ k ∧ k < L + 4
  · rw [if_pos c]
    obtain ⟨y, rfl⟩ : ∃ y, k = L + y := ⟨k - L, by omega⟩
    rw [Nat.add_sub_cancel_left]
    have hy : y < 4 := by omega
    match y, hy with
    | 0, _ => rw [u1n (by omega), u1n (by omega), u1n (by omega), Nat.add_zero, u1s]; rfl
    | 1, _ => rw [u1n (by omega), u1n (by omega), u1s]
    | 2, _ => rw [u1n (by omega), u1s]
    | 3, _ => rw [u1s]
  · rw [if_neg c, u1n (by omega), u1n (by omega), u1n (by omega), u1n (by omega)]
theorem ac_wr5 {P : Nat → Nat} {b L : Nat} {f : Nat → Int32} (hP : ∀ k, P k < 128) : ∀ k, ms_wr5 f L (Int32.ofNat (ac P b 4)) (Int32.ofNat (ac P (b + 4) 4)) (Int32.ofNat (ac P (b + 8) 4)) (Int32.ofNat (ac P (b + 12) 4)) (Int32.ofNat (ac P (b + 16) 4)) k = if L ≤ k ∧ k < L + 20 then Int32.ofNat (P (b + (k - L))) else f k := by
  intro k
  unfold ms_wr5
  rw [ac_wr hP, ac_wr hP, ac_wr hP, ac_wr hP, ac_wr hP]
  by_cases c4 : L + 4 + 4 + 4 + 4 ≤ k ∧ k < L + 4 + 4 + 4 + 4 + 4
  · rw [if_pos c4, if_pos (by omega)]
    congr 2
    omega
  · rw [if_neg c4]
    by_cases c3 : L + 4 + 4 + 4 ≤ k ∧ k < L + 4 + 4 + 4 + 4
    · rw [if_pos c3, if_pos (by omega)]
      congr 2
      omega
    · rw [if_neg c3]
      by_cases c2 : L + 4 + 4 ≤ k ∧ k < L + 4 + 4 + 4
      · rw [if_pos c2, if_pos (by omega)]
        congr 2
        omega
      · rw [if_neg c2]
        by_cases c1 : L + 4 ≤ k ∧ k < L + 4 + 4
        · rw [if_pos c1, if_pos (by omega)]
          congr 2
          omega
        · rw [if_neg c1]
          by_cases c0 : L ≤ k ∧ k < L + 4
          · rw [if_pos c0, if_pos (by omega)]
          · rw [if_neg c0, if_neg (by omega)]
theorem ac_lt {P : Nat → Nat} {b : Nat} (hP : ∀ k, P k < 128) : ∀ m, m < 4 → ac P b m < 8388608 := by
  have p0 := hP (b + 0)
  have p1 := hP (b + 1)
  have p2 := hP (b + 2)
  have e0 : ac P b 0 = 0 := rfl
  have e1 : ac P b 1 = 256 * 0 + P (b + 0) := rfl
  have e2 : ac P b 2 = 256 * (256 * 0 + P (b + 0)) + P (b + 1) := rfl
  have e3 : ac P b 3 = 256 * (256 * (256 * 0 + P (b + 0)) + P (b + 1)) + P (b + 2) := rfl
  intro m hm
  match m, hm with
  | 0, _ => rw [e0]; omega
  | 1, _ => rw [e1]; omega
  | 2, _ => rw [e2]; omega
  | 3, _ => rw [e3]; omega
