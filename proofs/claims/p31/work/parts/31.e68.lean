/-! THE PROGRAM AGAINST THE REFERENCE, 54: what was read so far -/
theorem i32_add' {a b : Int32} {x y : Int} (ha : a.toInt = x) (hb : b.toInt = y) (h1 : -2147483648 ≤ x + y) (h2 : x + y < 2147483648) : (a + b).toInt = x + y := by
  rw [i32_add (by omega) (by omega), ha, hb]
theorem tk_dig {x : Int32} (h : tk_c x = 2) : ∃ v, v ≤ 9 ∧ x - 48 = Int32.ofNat v := by
  have hx : ¬ x < 48 ∧ x ≤ 57 := by
    by_cases a : ¬ x < 97 ∧ x ≤ 122
    · unfold tk_c at h
      rw [if_pos a] at h
      exact absurd h (by decide)
    · by_cases c : ¬ x < 48 ∧ x ≤ 57
      · exact c
      · unfold tk_c at h
        rw [if_neg a, if_neg c] at h
        split at h
        · exact absurd h (by decide)
        · split at h <;> exact absurd h (by decide)
  obtain ⟨h1, h2⟩ := hx
  rw [i32_lt] at h1
  rw [i32_le] at h2
  have e1 : (48 : Int32).toInt = 48 := by decide
  have e2 : (57 : Int32).toInt = 57 := by decide
  refine ⟨(x.toInt - 48).toNat, by omega, ?_⟩
  apply Int32.toInt_inj.mp
  rw [ni_t (by omega), i32_sub (by omega) (by omega)]
  omega
theorem tk_v999 {b : Nat → Int32} {s : Nat} : ∀ m, m ≤ 3 → (∀ x, s ≤ x → x < s + m → tk_c (b x) = 2) → ∃ v, v < 10 ^ m ∧ tk_v b s m = Int32.ofNat v
  | 0, _, _ => ⟨0, by omega, rfl⟩
  | m + 1, hm, h => by
    obtain ⟨v, hv, e⟩ := tk_v999 m (by omega) (fun x h1 h2 => h x h1 (by omega))
    obtain ⟨u, hu, f⟩ := tk_dig (h (s + m) (by omega) (by omega))
    refine ⟨10 * v + u, by rw [Nat.pow_succ]; omega, ?_⟩
    show (10 : Int32) * tk_v b s m + (b (s + m) - 48) = _
    rw [e, f, Int32.ofNat_add, Int32.ofNat_mul]
    rfl
theorem tk_nn {b : Nat → Int32} {len p : Nat} (hp : p ≤ len) (h : tk_k b len p = 2) : ∃ v, v ≤ 999 ∧ tk_n b len p = Int32.ofNat v := by
  have hlt : tk_s b len p < len := by
    by_cases z : tk_s b len p < len
    · exact z
    · unfold tk_k at h
      rw [if_neg z] at h
      exact absurd h (by decide)
  have hk : tk_k b len p = tk_l (tk_z b len p) (tk_e b len p - tk_s b len p) := by
    unfold tk_k
    rw [if_pos hlt]
  rw [hk] at h
  have hz : tk_z b len p = 2 ∧ tk_e b len p - tk_s b len p ≤ 3 := by
    unfold tk_l at h
    by_cases a : tk_z b len p = 1
    · rw [if_pos a] at h
      split at h <;> exact absurd h (by decide)
    · rw [if_neg a] at h
      by_cases c : tk_z b len p = 2
      · rw [if_pos c] at h
        by_cases g : tk_e b len p - tk_s b len p ≤ 3
        · exact ⟨c, g⟩
        · rw [if_neg g] at h
          exact absurd h (by decide)
      · rw [if_neg c] at h
        exact absurd h c
  have he : tk_e b len p = tk_g (tk_q 2) b len (tk_s b len p + 1) := by
    unfold tk_e
    rw [if_pos hlt, if_pos (.inr hz.1), hz.1]
  obtain ⟨g1, g2, g3, -⟩ := tk_gle (q := tk_q 2) (b := b) (len := len) (len - (tk_s b len p + 1)) (tk_s b len p + 1) (by omega)
  rw [← he] at g1 g2 g3
  obtain ⟨v, hv, e⟩ := tk_v999 (b := b) (s := tk_s b len p) (tk_e b len p - tk_s b len p) hz.2 (fun x h1 h2 => by
    by_cases w : x = tk_s b len p
    · subst w
      exact hz.1
    · exact of_decide_eq_true (g3 x (by omega) (by omega)))
  refine ⟨v, ?_, e⟩
  have h3 : 10 ^ (tk_e b len p - tk_s b len p) ≤ 10 ^ 3 := Nat.pow_le_pow_right (by decide) hz.2
  omega
/-- a number within bounds -/
theorem NG_of {b : Nat → Int32} {len p : Nat} {lo hi : Int32} (hp : p ≤ len) (g : NG b len p lo hi) : ∃ v, v ≤ 999 ∧ tk_n b len p = Int32.ofNat v ∧ lo ≤ Int32.ofNat v ∧ Int32.ofNat v ≤ hi := by
  obtain ⟨v, hv, e⟩ := tk_nn hp g.1
  exact ⟨v, hv, e, by rw [← e]; exact g.2.1, by rw [← e]; exact g.2.2⟩
/-- bit k is not set -/
def tb (x : Int32) (k : Nat) : Prop := ((x >>> (Int32.ofNat k &&& 31)) &&& 1) = 0
theorem bv_bit (y : BitVec 32) (k : Nat) (hk : k < 8) : (y.sshiftRight k &&& 1#32) = 0#32 ↔ y.getLsbD k = false := by
  have h0 : (y.sshiftRight k).getLsbD 0 = y.getLsbD k := by
    rw [BitVec.getLsbD_sshiftRight]
    have : k < 32 := by omega
    simp [this]
  constructor
  · intro h
    have e := congrArg (fun z => z.getLsbD 0) h
    simp only [BitVec.getLsbD_and] at e
    rw [h0] at e
    simpa using e
  · intro h
    apply BitVec.eq_of_getLsbD_eq
    intro i hi
    rw [BitVec.getLsbD_and]
    by_cases z : i = 0
    · subst z
      rw [h0, h]
      rfl
    · have : (1#32).getLsbD i = false := by
        simp [BitVec.getLsbD_one, z]
      rw [this, Bool.and_false]
      simp
theorem tb_bit (x : Int32) : ∀ k, k < 8 → (tb x k ↔ x.toBitVec.getLsbD k = false) := by
  have go : ∀ (c : Int32) (k : Nat), k < 8 → (x >>> c).toBitVec = x.toBitVec.sshiftRight k → (((x >>> c) &&& 1) = 0 ↔ x.toBitVec.getLsbD k = false) := by
    intro c k hk e
    rw [← bv_bit x.toBitVec k hk, ← e, ← Int32.toBitVec_inj]
    exact Iff.rfl
  intro k hk
  unfold tb
  match k, hk with
  | 0, _ => exact go _ 0 (by decide) (by rw [Int32.toBitVec_shiftRight]; rfl)
  | 1, _ => exact go _ 1 (by decide) (by rw [Int32.toBitVec_shiftRight]; rfl)
  | 2, _ => exact go _ 2 (by decide) (by rw [Int32.toBitVec_shiftRight]; rfl)
  | 3, _ => exact go _ 3 (by decide) (by rw [Int32.toBitVec_shiftRight]; rfl)
  | 4, _ => exact go _ 4 (by decide) (by rw [Int32.toBitVec_shiftRight]; rfl)
  | 5, _ => exact go _ 5 (by decide) (by rw [Int32.toBitVec_shiftRight]; rfl)
  | 6, _ => exact go _ 6 (by decide) (by rw [Int32.toBitVec_shiftRight]; rfl)
  | 7, _ => exact go _ 7 (by decide) (by rw [Int32.toBitVec_shiftRight]; rfl)
theorem tb_one : ∀ j, j < 8 → ∀ k, k < 8 → ((1 : Int32) <<< (Int32.ofNat j &&& 31)).toBitVec.getLsbD k = decide (k = j) := by
  decide +kernel
theorem tb_or {x : Int32} {j k : Nat} (hj : j < 8) (hk : k < 8) : tb (x ||| ((1 : Int32) <<< (Int32.ofNat j &&& 31))) k ↔ (k ≠ j ∧ tb x k) := by
  rw [tb_bit _ k hk, tb_bit _ k hk, Int32.toBitVec_or, BitVec.getLsbD_or, tb_one j hj k hk]
  by_cases e : k = j
  · simp [e]
  · simp [e]
theorem tb_0 {k : Nat} (hk : k < 8) : tb 0 k := by
  rw [tb_bit _ k hk]
  simp
/-- the reference's numbers before and after the requests of the text -/
def pb (s : Nat → Int32) : Nat → Int32 := fun k => if k < 8 then s k else if k = 18 then -1 else if k = 25 ∨ k = 26 ∨ k = 34 ∨ k = 35 ∨ k = 43 ∨ k = 44 ∨ k = 52 ∨ k = 53 then -1 else 0
def pw (s a : Nat → Int32) : Nat → Nat → Int32
  | 0 => pb s
  | C + 1 => ms_addq (pw s a C) C (a (3 * C)) (a (3 * C + 1)) (a (3 * C + 2))
theorem pw_lo {s a : Nat → Int32} {k : Nat} (hk : k < 8) : ∀ C, pw s a C k = s k
  | 0 => if_pos hk
  | C + 1 => (ms_addq_n (by omega) (.inl (by omega))).trans (pw_lo hk C)
theorem ms_addq_c {w w' : Nat → Int32} {C k : Nat} {b r tm : Int32} (h : w' k = w k) : ms_addq w' C b r tm k = ms_addq w C b r tm k := by
  unfold ms_addq ev_u1
  simp only [h]
theorem pw_s {s s' a : Nat → Int32} {k : Nat} (hk : 8 ≤ k) : ∀ C, pw s' a C k = pw s a C k
  | 0 => by
    show pb s' k = pb s k
    unfold pb
    rw [if_neg (show ¬ k < 8 by omega), if_neg (show ¬ k < 8 by omega)]
  | C + 1 => ms_addq_c (pw_s hk C)
theorem pw_a {s a a' : Nat → Int32} : ∀ C, (∀ j, j < 3 * C → a' j = a j) → pw s a' C = pw s a C
  | 0, _ => rfl
  | C + 1, h => by
    show ms_addq (pw s a' C) C (a' (3 * C)) (a' (3 * C + 1)) (a' (3 * C + 2)) = ms_addq (pw s a C) C (a (3 * C)) (a (3 * C + 1)) (a (3 * C + 2))
    rw [pw_a C (fun j hj => h j (by omega)), h _ (by omega), h _ (by omega), h _ (by omega)]
theorem pw_u {s a : Nat → Int32} {C k : Nat} {v : Int32} (hk : k < 8) (j : Nat) : pw (ev_u1 s k v) a C j = ev_u1 (pw s a C) k v j := by
  by_cases e : j < 8
  · rw [pw_lo e]
    by_cases z : j = k
    · subst z
      rw [u1s, u1s]
    · rw [u1n z, u1n z, pw_lo e]
  · rw [pw_s (s := s) (by omega), u1n (by omega)]
/-- what the two sides have read of the text lies alike -/
def QS (dc dr : Nat → Nat → Nat → Int32) (B R C : Nat) : Prop := CL dc 0 (dr 48 0) ∧ TC (dr 48 0) B R ∧ (dc 24 0 4 = Int32.ofNat C ∧ dr 44 0 14 = Int32.ofNat C ∧ C ≤ 20) ∧ CS dc 0 (pw (dr 49 0) (dr 50 0) C) C 0 ∧
  (∀ k, k < 7 → (dc 31 0 k = 0 ↔ tb (dr 44 0 13) k)) ∧ (dr 49 0 7 = 0 ↔ tb (dr 44 0 13) 7) ∧
  ((∃ S, S ≤ 4 ∧ dr 49 0 0 = Int32.ofNat S) ∧ ms_rg (dr 49 0 1) 1 8 ∧ ms_rg (dr 49 0 2) 0 8 ∧ (dr 49 0 7 = 0 ∨ dr 49 0 7 = 1) ∧ ms_rg (dr 49 0 3) 1 99) ∧
  (∀ q, q < C → (∃ b, b < B ∧ dr 50 0 (3 * q) = Int32.ofNat b) ∧ ∃ r, r < R ∧ dr 50 0 (3 * q + 1) = Int32.ofNat r)
def KS (d d' : Nat → Nat → Nat → Int32) : Prop := (∀ r i, 27 ≤ r ∨ i ≠ 0 → r ≠ 28 → r ≠ 29 → r ≠ 31 → d' r i = d r i) ∧ (∀ k, k < 3 → d' 29 0 k = d 29 0 k)
def KT (d d' : Nat → Nat → Nat → Int32) : Prop := (∀ r, r ≠ 44 → r ≠ 48 → r ≠ 49 → r ≠ 50 → d' r = d r) ∧ (∀ k, k < 6 ∨ 14 < k → d' 44 0 k = d 44 0 k)
theorem KS_t {d d' d'' : Nat → Nat → Nat → Int32} (h : KS d d') (h' : KS d' d'') : KS d d'' := ⟨fun r i x y z u => (h'.1 r i x y z u).trans (h.1 r i x y z u), fun k x => (h'.2 k x).trans (h.2 k x)⟩
theorem KT_t {d d' d'' : Nat → Nat → Nat → Int32} (h : KT d d') (h' : KT d' d'') : KT d d'' := ⟨fun r x y z u => (h'.1 r x y z u).trans (h.1 r x y z u), fun k x => (h'.2 k x).trans (h.2 k x)⟩
theorem KS_KC {d d' : Nat → Nat → Nat → Int32} (h : KC d d') : KS d d' := ⟨fun r i _ y z _ => by rw [h.1 r y z], h.2⟩
theorem KT_KR {d d' : Nat → Nat → Nat → Int32} (h : KR d d') : KT d d' := ⟨fun r x _ _ _ => h.1 r x, fun k hk => h.2 k (by omega)⟩
theorem KS_u {d : Nat → Nat → Nat → Int32} {r k : Nat} {v : Int32} (h : r < 27) : KS d (ev_u3 d r 0 k v) := by
  refine ⟨fun r' i x _ _ _ => ?_, fun k' _ => by rw [u3n (by omega)]⟩
  by_cases e : r' = r
  · subst e
    rw [u3w, w3j (by omega)]
  · rw [u3n e]
theorem KS_31 {d : Nat → Nat → Nat → Int32} {k : Nat} {v : Int32} : KS d (ev_u3 d 31 0 k v) := ⟨fun r i _ _ _ z => by rw [u3n z], fun k' _ => by rw [u3n (by decide)]⟩
theorem KT_u {d : Nat → Nat → Nat → Int32} {r k : Nat} {v : Int32} (h : r = 48 ∨ r = 49 ∨ r = 50) : KT d (ev_u3 d r 0 k v) := ⟨fun r' _ x y z => by rw [u3n (by omega)], fun k' _ => by rw [u3n (by omega)]⟩
theorem KT_44 {d : Nat → Nat → Nat → Int32} {k : Nat} {v : Int32} (h1 : 6 ≤ k) (h2 : k ≤ 14) : KT d (ev_u3 d 44 0 k v) := ⟨fun r x _ _ _ => u3n x, fun k' hk' => u3x (by omega)⟩
/-- both fail alike -/
def PE (dc dr : Nat → Nat → Nat → Int32) : Prop := dr 44 0 10 ≠ 0 ∧ dc 28 0 5 = dr 44 0 10 ∧ dc 28 0 6 = dr 44 0 11
theorem NE_0 {b : Nat → Int32} {len p : Nat} : NE b len p ≠ 0 := by
  unfold NE
  split <;> decide
