/-! THE LAW'S METHODS, 22: the builder is made, its text becomes a string; its length, its letters -/
/-- string s holds the text L -/
def SX (w : Nat) (e : Nat → Nat → Nat → Int32) (q : Nat → Nat → Nat → Nat) (s : Nat) (L : List Int32) : Prop :=
  ∃ h, q 215 s 0 = h + 1 ∧ h < w ∧ s < w ∧ e 215 s 1 = 0 ∧ e 199 h 0 = Int32.ofNat L.length ∧ ∀ k, k < L.length → e 214 h k = L.getD k 0
/-- a letter below 128 -/
def as7 (x : Int32) : Prop := x = Int32.ofNat x.toNatClampNeg ∧ x.toNatClampNeg < 128
theorem as7_of {c : Nat} (h : c < 128) : as7 (Int32.ofNat c) := by
  unfold as7
  rw [ni_c (by omega)]
  exact ⟨rfl, h⟩
theorem as7_all : ∀ c, c < 128 → ((((Int32.ofNat c) &&& (255 : Int32))).toUInt32 % 65536).toInt32 = Int32.ofNat c ∧ ev_ok 3 (Int32.ofNat c) = true := by decide +kernel
theorem as7_ok {x : Int32} (h : as7 x) : (((x &&& (255 : Int32))).toUInt32 % 65536).toInt32 = x ∧ ev_ok 3 x = true := by
  obtain ⟨h1, h2⟩ := h
  have := as7_all _ h2
  rwa [← h1] at this
theorem as7_dg {v : Nat} (hv : v < 100) : ∀ x ∈ dg v, as7 x := by
  intro x hx
  unfold dg at hx
  by_cases c : v < 10
  · rw [if_pos c, List.mem_singleton] at hx
    rw [hx]
    exact as7_of (by omega)
  · rw [if_neg c] at hx
    rcases List.mem_cons.mp hx with rfl | hx
    · exact as7_of (by omega)
    · rw [List.mem_singleton] at hx
      rw [hx]
      exact as7_of (by omega)
theorem gD_el {L : List Int32} {k : Nat} (hk : k < L.length) : L.getD k 0 = L[k] := by rw [List.getD_eq_getElem?_getD, List.getElem?_eq_getElem hk, Option.getD_some]
theorem as7_get {L : List Int32} (h : ∀ x ∈ L, as7 x) {k : Nat} (hk : k < L.length) : as7 (L.getD k 0) := by
  rw [gD_el hk]
  exact h _ (List.getElem_mem hk)
theorem as7_sbl {j : Nat} (hj : 35 ≤ j ∧ j < 46) : ∀ x ∈ sbl j, as7 x := by
  have all : ∀ j, j < 11 → ∀ k, k < (sbl (35 + j)).length → ((sbl (35 + j)).getD k 0) = Int32.ofNat ((sbl (35 + j)).getD k 0).toNatClampNeg ∧ ((sbl (35 + j)).getD k 0).toNatClampNeg < 128 := by decide +kernel
  intro x hx
  obtain ⟨k, hk, rfl⟩ := List.mem_iff_getElem.mp hx
  have a := all (j - 35) (by omega)
  rw [show 35 + (j - 35) = j by omega] at a
  have := a k hk
  rwa [gD_el hk] at this
section SBN
variable {i w h cap s : Nat} {lk : Nat → Nat → Nat → Bool} {d e : Nat → Nat → Nat → Int32} {t : Nat → Nat} {q : Nat → Nat → Nat → Nat} {L : List Int32}
theorem sb_new (h0 : e 213 i 3 = 0) : ∃ w' t' e' q', EV (224, 0, [ev_R 213 i], [], 0, 0) (384, lk, d, i + 1, t, e, q) = some (.inl none, (384, lk, d, w', t', e', q')) ∧ BF i (i + 1) e q w' e' q' ∧ SB i w' e' q' (i + 1) 16 [] := by
  refine ⟨i + 2, ev_n1 t (i + 1) 214, ev_u3 (ev_u3 (ev_w3 e 214 (i + 1) (fun _ => 0)) 199 (i + 1) 0 16) 213 i 1 0, ev_n3 (ev_z3 q 214 (i + 1)) 213 i 0 (i + 1 + 1), EV_bk (k := 400) ?_, ⟨by omega, fun r x p hx hr hn => ?_, fun r x p hx hn => ?_⟩, ⟨?_, by omega, by omega, ?_, ?_, ?_, by decide, by decide, fun k hk => absurd hk (Nat.not_lt_zero _)⟩⟩
  · have e225 : EV (225, 0, [ev_R 213 i, ev_I (16 : Int32)], [], 0, 0) (384, lk, d, i + 1, t, e, q) = some (.inl none, (384, lk, d, i + 2, ev_n1 t (i + 1) 214, ev_u3 (ev_u3 (ev_w3 e 214 (i + 1) (fun _ => 0)) 199 (i + 1) 0 16) 213 i 1 0, ev_n3 (ev_z3 q 214 (i + 1)) 213 i 0 (i + 1 + 1))) := EV_bk (bk_225_0 EV i 16 384 lk d (i + 1) t e q)
    rw [bk_224_0, e225, bv_ok]
  · rw [u3_ne (by omega), u3_ne (by omega), w3_ne (by omega)]
  · rw [n3_ne (by omega), z3_ne (by omega)]
  · rw [n3_eq ⟨rfl, rfl, rfl⟩]
  · rw [u3_eq ⟨rfl, rfl, rfl⟩]
  · rw [u3_ne (by omega), u3_ne (by omega), w3_ne (by omega), h0]
    rfl
  · rw [u3_ne (by omega), u3_eq ⟨rfl, rfl, rfl⟩]
    rfl
/-- the first len bytes of an array, anew -/
theorem sb_249 {len : Nat} (h2 : h < w) (s6 : e 199 h 0 = Int32.ofNat cap) (h1 : len ≤ cap) (hc : cap ≤ 1300) (hl : len ≤ 600) : ∃ e', EV (249, 0, [ev_R 214 h, ev_I (0 : Int32), ev_I (Int32.ofNat len)], [], 0, 0) (384, lk, d, w, t, e, q) = some (.inl (some (ev_R 214 w)), (384, lk, d, w + 1, ev_n1 t w 214, e', ev_z3 q 214 w)) ∧ (∀ r x p, ¬ (r = 214 ∧ x = w) → ¬ (r = 199 ∧ x = w) → e' r x p = e r x p) ∧ e' 199 w 0 = Int32.ofNat len ∧ ∀ k, k < len → e' 214 w k = e 214 h k := by
  by_cases c : len = cap
  · subst c
    refine ⟨ev_u3 (ev_w3 e 214 w (e 214 h)) 199 w 0 (Int32.ofNat len), EV_bk (k := 400) ?_, fun r x p n1 n2 => by rw [u3_ne (by omega), w3_ne n1], by rw [u3_eq ⟨rfl, rfl, rfl⟩], fun k hk => by rw [u3_ne (by omega), w3_eq ⟨rfl, rfl⟩]⟩
    rw [bk_249_0, if_pos rfl, s6, if_pos rfl]
    simp only [ni_ng (show len < 2147483648 by omega), ni_c (show len < 2147483648 by omega), Nat.zero_add, ble1 (show len ≤ 10000 by omega), ble1 (show len ≤ 2000 by omega), Bool.and_true, Bool.true_and, cond_true]
    rfl
  · have x3 : ¬ Int32.ofNat len = Int32.ofNat cap := fun y => c ((ni_eq (by omega) (by omega)).mp y)
    have m0 : ∀ x : Int32, x - 0 = x := fun x => by
      rw [Int32.sub_zero]
    have x1 : (ev_u3 e 199 w 0 (Int32.ofNat len)) 199 h 0 = Int32.ofNat cap := by rw [u3_ne (by omega), s6]
    have x2 : (ev_u3 e 199 w 0 (Int32.ofNat len)) 199 w 0 = Int32.ofNat len := by rw [u3_eq ⟨rfl, rfl, rfl⟩]
    have x4 : Int32.ofNat len < Int32.ofNat cap := (ni_lt (by omega) (by omega)).mpr (by omega)
    have e251 : EV (251, 0, [ev_I 0, ev_I (Int32.ofNat len)], [], 0, 0) (384, lk, d, w, t, e, q) = some (.inl none, (384, lk, d, w, t, e, q)) := EV_bk (k := 400) (by
      rw [bk_251_0, if_neg (show ¬ Int32.ofNat len < 0 from Int32.not_lt.mpr (ni_lo (by omega)))])
    refine ⟨ev_w3 (ev_u3 (ev_w3 e 214 w (fun _ => 0)) 199 w 0 (Int32.ofNat len)) 214 w (va_cpy ((ev_w3 e 214 w (fun _ => 0)) 214 h) ((ev_w3 e 214 w (fun _ => 0)) 214 w) 0 0 len), EV_bk (k := 400) ?_, fun r x p n1 n2 => by rw [w3_ne n1, u3_ne (by omega), w3_ne n1], by rw [w3_ne (by omega), u3_eq ⟨rfl, rfl, rfl⟩], fun k hk => ?_⟩
    · have e250 : EV (250, 0, [ev_R 214 h, ev_I (0 : Int32), ev_I (Int32.ofNat len)], [], 0, 0) (384, lk, d, w, t, e, q) = some (.inl (some (ev_R 214 w)), (384, lk, d, w + 1, ev_n1 t w 214, ev_w3 (ev_u3 (ev_w3 e 214 w (fun _ => 0)) 199 w 0 (Int32.ofNat len)) 214 w (va_cpy ((ev_w3 e 214 w (fun _ => 0)) 214 h) ((ev_w3 e 214 w (fun _ => 0)) 214 w) 0 0 len), ev_z3 q 214 w)) := by
        refine EV_bk (k := 400) ?_
        rw [bk_250_0, e251, bv_ok]
        simp only [m0, x1, x2, if_pos x4, ni_ng (show len < 2147483648 by omega), ni_c (show len < 2147483648 by omega), ni_c (show cap < 2147483648 by omega), show (0 : Int32).toNatClampNeg = 0 from rfl, show (!(decide ((0 : Int32) < 0))) = true from rfl, Nat.zero_add, ble1 (show len ≤ 10000 by omega), ble1 (show len ≤ 1000 by omega), ble1 h1, ble1 (Nat.le_refl len), Bool.and_true, Bool.true_and, cond_true]
        rfl
      rw [bk_249_0, if_pos rfl, s6, if_neg x3, e250, br_ok]
      rfl
    · rw [w3_eq ⟨rfl, rfl⟩]
      unfold va_cpy
      rw [if_pos (by omega), Nat.sub_zero, Nat.zero_add, w3_ne (by omega)]
/-- the text becomes a string -/
theorem sb_made (hs : SB i w e q h cap L) (hm : L.length ≤ 600) : ∃ w' t' e' q', EV (243, 0, [ev_R 213 i], [], 0, 0) (384, lk, d, w, t, e, q) = some (.inl (some (ev_R 215 w)), (384, lk, d, w', t', e', q')) ∧ w ≤ w' ∧ (∀ r x p, x < w → e' r x p = e r x p) ∧ (∀ r x p, x < w → q' r x p = q r x p) ∧ SX w' e' q' w L := by
  obtain ⟨s1, s2, s3, s4, s5, s6, s7, s8, s9⟩ := hs
  have y1 : ∀ r x p, x < w → (ev_u3 (ev_w3 e 215 w (fun _ => 0)) 215 w 1 (0 : Int32)) r x p = e r x p := fun r x p hx => by rw [u3_ne (by omega), w3_ne (by omega)]
  have y2 : ∀ r x p, x < w → (ev_z3 q 215 w) r x p = q r x p := fun r x p hx => by rw [z3_ne (by omega)]
  obtain ⟨e2, v2, f2, g2, k2⟩ := sb_249 (lk := lk) (d := d) (w := w + 1) (t := ev_n1 t w 215) (q := ev_z3 q 215 w) (e := ev_u3 (ev_w3 e 215 w (fun _ => 0)) 215 w 1 (0 : Int32)) (h := h) (cap := cap) (len := L.length) (by omega) (by rw [y1 _ _ _ s2, s6]) s7 s8 hm
  refine ⟨w + 1 + 1, ev_n1 (ev_n1 t w 215) (w + 1) 214, e2, ev_n3 (ev_z3 (ev_z3 q 215 w) 214 (w + 1)) 215 w 0 (w + 1 + 1), EV_bk (k := 400) ?_, by omega, fun r x p hx => ?_, fun r x p hx => ?_, w + 1, n3_eq ⟨rfl, rfl, rfl⟩, by omega, by omega, ?_, g2, fun k hk => ?_⟩
  · have e246 : EV (246, 0, [ev_R 213 i], [], 0, 0) (384, lk, d, w + 1, ev_n1 t w 215, ev_w3 e 215 w (fun _ => 0), ev_z3 q 215 w) = some (.inl (some (ev_R 214 h)), (384, lk, d, w + 1, ev_n1 t w 215, ev_w3 e 215 w (fun _ => 0), ev_z3 q 215 w)) := EV_bk (k := 400) (by rw [bk_246_0, y2 _ _ _ s3, s1, ev_lq_s])
    have z5 : (ev_w3 e 215 w (fun _ => 0)) 213 i 3 = Int32.ofNat L.length := by rw [w3_ne (by omega), s5]
    have z4 : (ev_w3 e 215 w (fun _ => 0)) 213 i 1 = 0 := by rw [w3_ne (by omega), s4]
    have e248 : EV (248, 0, [ev_R 213 i], [], 0, 0) (384, lk, d, w + 1, ev_n1 t w 215, ev_w3 e 215 w (fun _ => 0), ev_z3 q 215 w) = some (.inl (some (ev_I (Int32.ofNat L.length))), (384, lk, d, w + 1, ev_n1 t w 215, ev_w3 e 215 w (fun _ => 0), ev_z3 q 215 w)) := EV_bk (k := 400) (by rw [bk_248_0, z5])
    have e247 : EV (247, 0, [ev_R 213 i], [], 0, 0) (384, lk, d, w + 1, ev_n1 t w 215, ev_w3 e 215 w (fun _ => 0), ev_z3 q 215 w) = some (.inl (some (ev_I (Int32.ofNat L.length))), (384, lk, d, w + 1, ev_n1 t w 215, ev_w3 e 215 w (fun _ => 0), ev_z3 q 215 w)) := EV_bk (k := 400) (by rw [bk_247_0, e248, bi_ok])
    have e245 : EV (245, 0, [ev_R 215 w, ev_R 213 i, ev_R 109 0], [], 0, 0) (384, lk, d, w + 1, ev_n1 t w 215, ev_w3 e 215 w (fun _ => 0), ev_z3 q 215 w) = some (.inl none, (384, lk, d, w + 1 + 1, ev_n1 (ev_n1 t w 215) (w + 1) 214, e2, ev_n3 (ev_z3 (ev_z3 q 215 w) 214 (w + 1)) 215 w 0 (w + 1 + 1))) := by
      refine EV_bk (k := 400) ?_
      rw [bk_245_0, e246, br_ok]
      show ev_bi _ _ _ = _
      rw [e247, bi_ok, sb_232 z4, bi_ok, if_neg (by decide)]
      simp only []
      rw [v2, br_ok]
      rfl
    have e244 : EV (244, 0, [ev_R 215 w, ev_R 213 i], [], 0, 0) (384, lk, d, w + 1, ev_n1 t w 215, ev_w3 e 215 w (fun _ => 0), ev_z3 q 215 w) = some (.inl none, (384, lk, d, w + 1 + 1, ev_n1 (ev_n1 t w 215) (w + 1) 214, e2, ev_n3 (ev_z3 (ev_z3 q 215 w) 214 (w + 1)) 215 w 0 (w + 1 + 1))) := EV_bk (k := 400) (by rw [bk_244_0, e245, bv_ok])
    rw [bk_243_0]
    show ev_bv _ _ _ = _
    rw [e244, bv_ok]
  · rw [f2 r x p (by omega) (by omega), y1 r x p hx]
  · rw [n3_ne (by omega), z3_ne (by omega), z3_ne (by omega)]
  · rw [f2 215 w 1 (by omega) (by omega), u3_eq ⟨rfl, rfl, rfl⟩]
  · rw [k2 k hk, y1 _ _ _ s2, s9 k hk]
/-- how long the builder's text is -/
theorem sb_len (s5 : e 213 i 3 = Int32.ofNat L.length) : EV (247, 0, [ev_R 213 i], [], 0, 0) (384, lk, d, w, t, e, q) = some (.inl (some (ev_I (Int32.ofNat L.length))), (384, lk, d, w, t, e, q)) := by
  have e248 : EV (248, 0, [ev_R 213 i], [], 0, 0) (384, lk, d, w, t, e, q) = some (.inl (some (ev_I (Int32.ofNat L.length))), (384, lk, d, w, t, e, q)) := EV_bk (k := 400) (by rw [bk_248_0, s5])
  exact EV_bk (k := 400) (by rw [bk_247_0, e248, bi_ok])
theorem sx_len (hs : SX w e q s L) : EV (252, 0, [ev_R 215 s], [], 0, 0) (384, lk, d, w, t, e, q) = some (.inl (some (ev_I (Int32.ofNat L.length))), (384, lk, d, w, t, e, q)) := by
  obtain ⟨h, s1, s2, s3, s4, s5, s6⟩ := hs
  have e253 : EV (253, 0, [ev_R 215 s], [], 0, 0) (384, lk, d, w, t, e, q) = some (.inl (some (ev_I 0)), (384, lk, d, w, t, e, q)) := EV_bk (k := 400) (by
    rw [bk_253_0, s4, show ev_ok 4 0 = true from by decide, cond_true])
  exact EV_bk (k := 400) (by rw [bk_252_0, s1, ev_lq_s, e253, bi_ok, s5, sh0r])
theorem sx_at (hs : SX w e q s L) {k : Nat} (hk : k < L.length) (hL : L.length ≤ 600) (h7 : as7 (L.getD k 0)) : EV (254, 0, [ev_R 215 s, ev_I (Int32.ofNat k)], [], 0, 0) (384, lk, d, w, t, e, q) = some (.inl (some (ev_I (L.getD k 0))), (384, lk, d, w, t, e, q)) := by
  obtain ⟨h, s1, s2, s3, s4, s5, s6⟩ := hs
  obtain ⟨a1, a2⟩ := as7_ok h7
  have e9 : EV (9, 0, [ev_I (Int32.ofNat k), ev_I (Int32.ofNat L.length), ev_R 107 0], [], 0, 0) (384, lk, d, w, t, e, q) = some (.inl (some (ev_I (Int32.ofNat k))), (384, lk, d, w, t, e, q)) := by
    refine EV_bk (k := 400) ?_
    rw [bk_9_0, if_neg (show ¬ Int32.ofNat k < 0 from Int32.not_lt.mpr (ni_lo (by omega))), if_pos ((ni_lt (by omega) (by omega)).mpr hk)]
  have e6 : EV (6, 0, [ev_I (Int32.ofNat k), ev_I (Int32.ofNat L.length)], [], 0, 0) (384, lk, d, w, t, e, q) = some (.inl none, (384, lk, d, w, t, e, q)) := by
    refine EV_bk (k := 400) ?_
    rw [bk_6_0, e9]
    rfl
  have e255 : EV (255, 0, [ev_R 215 s], [], 0, 0) (384, lk, d, w, t, e, q) = some (.inl (some (ev_I 1)), (384, lk, d, w, t, e, q)) := EV_bk (k := 400) (by rw [bk_255_0, if_pos s4])
  have e256 : EV (256, 0, [ev_R 214 h, ev_I (Int32.ofNat k)], [], 0, 0) (384, lk, d, w, t, e, q) = some (.inl (some (ev_I (L.getD k 0))), (384, lk, d, w, t, e, q)) := by
    refine EV_bk (k := 400) ?_
    rw [bk_256_0, s5, e6, bv_ok]
    simp only [s5, ni_c (show L.length < 2147483648 by omega), ni_c (show k < 2147483648 by omega), ni_in hk (show L.length < 2147483648 by omega), s6 k hk, a1, a2, cond_true]
  refine EV_bk (k := 400) ?_
  rw [bk_254_0, e255, bi_ok, if_neg (by decide)]
  simp only [s1, ev_lq_s]
  rw [e256, bi_ok, a2, cond_true]
end SBN
