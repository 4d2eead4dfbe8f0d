/-! THE LAW -/
theorem gh_LC {n n' : Nat} {lk l2 : Nat → Nat → Nat → Bool} {d1 d2 : Nat → Nat → Nat → Int32} {o : ev_W} {x : ev_O} {K : ev_M → ev_T} (hl : ∀ r, r < 44 ∨ 60 < r → l2 r = lk r) (h : ∀ r, r < 44 ∨ 60 < r → d2 r = d1 r) : ev_gh (some (x, (n', l2, d2, o))) (n, lk, d1, o) K = K (n, l2, d2, o) := by
  show K (ev_mg (n, lk, d1, o) (n', l2, d2, o)) = _
  congr 1
  unfold ev_mg
  simp only
  have e1 : (fun r => bif Nat.blt 43 r && Nat.blt r 62 then l2 r else lk r) = l2 := by
    funext r
    by_cases c : 43 < r ∧ r < 62
    · rw [show (Nat.blt 43 r && Nat.blt r 62) = true by rw [Nat.blt_eq.mpr c.1, Nat.blt_eq.mpr c.2]; rfl, cond_true]
    · rw [show (Nat.blt 43 r && Nat.blt r 62) = false from Bool.eq_false_iff.mpr fun z => c ⟨Nat.blt_eq.mp ((Bool.and_eq_true _ _).mp z).1, Nat.blt_eq.mp ((Bool.and_eq_true _ _).mp z).2⟩, cond_false, hl r (by omega)]
  have e2 : (fun r => bif Nat.blt 43 r && Nat.blt r 62 then d2 r else d1 r) = d2 := by
    funext r
    by_cases c : 43 < r ∧ r < 62
    · rw [show (Nat.blt 43 r && Nat.blt r 62) = true by rw [Nat.blt_eq.mpr c.1, Nat.blt_eq.mpr c.2]; rfl, cond_true]
    · rw [show (Nat.blt 43 r && Nat.blt r 62) = false from Bool.eq_false_iff.mpr fun z => c ⟨Nat.blt_eq.mp ((Bool.and_eq_true _ _).mp z).1, Nat.blt_eq.mp ((Bool.and_eq_true _ _).mp z).2⟩, cond_false, h r (by omega)]
  rw [e1, e2]
section LAW
variable {lk : Nat → Nat → Nat → Bool}
def lwP (r : ev_O × ev_M) : Prop := ∃ μz, r = (.inl (some (ev_I 1)), μz)
theorem lw_step (hl : LK lk) {N k c s : Nat} {w : Nat} {tt : Nat → Nat} {d e : Nat → Nat → Nat → Int32} {q : Nat → Nat → Nat → Nat} (hk : k < 3) (hN : N ≤ 3072) (b1 : (Nat.ble (c + 1) 600086 && Nat.ble (s + 1) 7301442) = true) (b2 : (Nat.ble ((c + 1) + 18000) 600086 && Nat.ble ((s + 1) + 420000) 7301442) = true) (hG : GI d) (h4 : d 44 0 4 = 0) (h104 : d 104 0 0 = Int32.ofNat N)
    (kk : ∀ d' wn' tt' e' q', d' 44 0 4 = 0 → d' 104 0 0 = Int32.ofNat N → GI d' → ER (282, 13, [ev_R 103 0, ev_R 27 0, ev_I (Int32.ofNat N), ev_I (Int32.ofNat (k + 1))], [], (c + 1) + 18000, (s + 1) + 420000) (384, lk, d', wn', tt', e', q') lwP) :
    ER (282, 13, [ev_R 103 0, ev_R 27 0, ev_I (Int32.ofNat N), ev_I (Int32.ofNat k)], [], c, s) (384, lk, d, w, tt, e, q) lwP := by
  refine ER_bk ?_
  rw [bk_282_13]
  by_cases hkN : k < N
  · obtain ⟨r, x, d', wn', tt', e', q', z1, z2, z3, rfl⟩ := pl_plays (σ := Int32.ofNat N) (g := w) (w := w + 1) (tt := ev_n1 tt w 208) (e := ev_u3 (ev_w3 e 208 w (fun _ => 0)) 208 w 0 (d 103 0 k)) (q := ev_z3 q 208 w) (P := fun r => ∃ d' wn' tt' e' q', d' 44 0 4 = 0 ∧ d' 104 0 0 = Int32.ofNat N ∧ GI d' ∧ r = (.inl (some (ev_I 1)), (384, lk, d', wn', tt', e', q'))) hl (by omega) hG h4 h104 (fun d' wn' tt' e' q' z1 z2 z3 => ⟨d', wn', tt', e', q', z1, z2, z3, rfl⟩)
    rw [if_pos ((ni_lt (by omega) (by omega)).mpr hkN), if_pos (show Int32.ofNat k < (3 : Int32) from (ni_lt (b := 3) (by omega) (by omega)).mpr hk), b1, h104, ni_c (show N < 2147483648 by omega), ni_in hkN (by omega), b2, ni_c (show k < 2147483648 by omega)]
    show ∃ r, ev_bi _ _ _ = _ ∧ _
    rw [x, bi_ok, if_neg (by decide), ni_1]
    exact kk d' wn' tt' e' q' z1 z2 z3
  · rw [if_neg (fun z => hkN ((ni_lt (by omega) (by omega)).mp z))]
    exact ⟨_, rfl, _, rfl⟩
theorem lw_stop {N c s : Nat} {μ : ev_M} : ER (282, 13, [ev_R 103 0, ev_R 27 0, ev_I (Int32.ofNat N), ev_I (Int32.ofNat 3)], [], c, s) μ lwP := by
  obtain ⟨n, lk, d, w, t, e, q⟩ := μ
  refine ER_bk ?_
  rw [bk_282_13]
  by_cases h : Int32.ofNat 3 < Int32.ofNat N
  · rw [if_pos h, if_neg (by decide)]
    exact ⟨_, rfl, _, rfl⟩
  · rw [if_neg h]
    exact ⟨_, rfl, _, rfl⟩
theorem lw_all (hl : LK lk) {N : Nat} {w : Nat} {tt : Nat → Nat} {d e : Nat → Nat → Nat → Int32} {q : Nat → Nat → Nat → Nat} (hN : N ≤ 3072) (hG : GI d) (h4 : d 44 0 4 = 0) (h104 : d 104 0 0 = Int32.ofNat N) :
    ER (282, 13, [ev_R 103 0, ev_R 27 0, ev_I (Int32.ofNat N), ev_I (Int32.ofNat 0)], [], 383, 10459) (384, lk, d, w, tt, e, q) lwP := by
  refine lw_step hl (by omega) hN rfl rfl hG h4 h104 fun d1 w1 t1 e1 q1 a1 a2 a3 => ?_
  refine lw_step hl (by omega) hN rfl rfl a3 a1 a2 fun d2 w2 t2 e2 q2 b1 b2 b3 => ?_
  refine lw_step hl (by omega) hN rfl rfl b3 b1 b2 fun d3 w3 t3 e3 q3 c1 c2 c3 => ?_
  exact lw_stop
theorem ec_law31 {L : Nat} {xs : Nat → Int32} (hL : L ≤ 3072) : ∃ μz, EV (282, 0, [ev_R 103 0], [], 0, 0) (sd_mu L xs) = some (.inl (some (ev_I 1)), μz) := by
  have go : ∀ n (lk : Nat → Nat → Nat → Bool) (d : Nat → Nat → Nat → Int32) w tt (e : Nat → Nat → Nat → Int32) (q : Nat → Nat → Nat → Nat), n = 1 → d 104 0 0 = Int32.ofNat L → (∀ k, d 44 0 k = 0) → ∃ μz, EV (282, 0, [ev_R 103 0], [], 0, 0) (n, lk, d, w, tt, e, q) = some (.inl (some (ev_I 1)), μz) := by
    intro n lk d w tt e q hn h104 h44
    obtain ⟨l1, d1, e1, c1, f1, y24, y25, s1, y29, ⟨y39, y39'⟩, y43, y27⟩ := cn_86 (n := n + 1) (lk := ev_nl lk 27 0) (d := ev_w3 d 27 0 (fun _ => 0)) (o := (w, tt, e, q)) (by omega)
    obtain ⟨l2, d2, e2, hl2, fl, f2, ⟨z0, z1, z2, z3, z4⟩, z46, z11, z44, z25, z60⟩ := cn_127 (n := n + 1 + 382 + 1) (lk := l1) (d := d1) (o := (w, tt, e, q)) (by omega) c1 (fun k => by rw [f1 44 (by decide), w3n (by decide), h44])
    have er : ∀ r, r < 44 → d2 r = d1 r := fun r hr => f2 r (by omega)
    have h104' : d2 104 0 0 = Int32.ofNat L := by
      rw [f2 104 (by omega), f1 104 (by decide), w3n (by decide), h104]
    have gi : GI d2 := by
      have cs : CS d2 1 (d2 46 0) 0 0 := CS_w (CS_d s1 (fun r hr => by rw [er r (by omega)])) z46
      have si : SI (d2 46 0) 1 1 0 0 0 := SI_w (w := pw us_s us_s 0) (pw_SI (B := 1) (R := 1) (C := 0) (s := us_s) (a := us_s) (by decide) ⟨⟨1, by decide, rfl⟩, by unfold ms_rg us_s; decide, by unfold ms_rg us_s; decide, .inl rfl, by unfold ms_rg us_s; decide⟩ (fun q hq => absurd hq (Nat.not_lt_zero _))) z46
      refine ⟨1, 1, 0, ?_, ?_, ⟨?_, by decide⟩, ⟨0, 0, by decide, ⟨0, ?_⟩, ?_⟩, ⟨0, by decide, ?_, ?_, fun k hk => absurd hk (Nat.not_lt_zero _)⟩, ?_, ⟨0, 0, by decide, by decide, ?_, ?_, ?_, fun k hk => absurd hk (Nat.not_lt_zero _)⟩, fun s hs => ?_⟩
      · refine ⟨⟨z0, z1, by decide, by decide, by decide, by decide⟩, by rw [z2]; decide, by rw [z3]; decide, fun c hc => by rw [z4 c hc]; decide⟩
      · refine ⟨?_, ?_, ?_, ?_, fun c hc => .inl ?_⟩
        · rw [er 24 (by decide), y24.1, z0]
        · rw [er 24 (by decide), y24.2.1, z1]
        · rw [er 24 (by decide), y24.2.2.1, z2]
        · rw [er 24 (by decide), y24.2.2.2.1, z3]
        · rw [er 25 (by decide), er 26 (by decide)]
          exact ⟨(y25 c hc).1, (y25 c hc).2, z4 c hc⟩
      · rw [er 24 (by decide), y24.2.2.2.2]
        rfl
      · exact cs
      · exact si
      · rw [er 29 (by decide), y29]
        rfl
      · rw [z44]
        rfl
      · rw [er 27 (by decide), y27, z11]
      · rw [er 39 (by decide), y39]
        rfl
      · rw [er 39 (by decide), y39']
        rfl
      · rw [z25]
        rfl
      · rw [er 43 (by decide), y43 s, z60 s hs]
        exact ⟨rfl, .inl rfl⟩
    subst hn
    obtain ⟨r, x, μz, rfl⟩ := lw_all hl2 (w := w) (tt := tt) (e := e) (q := q) hL gi z44 h104'
    refine ⟨μz, EV_bk (k := 400) ?_⟩
    rw [bk_282_0]
    show ev_bv _ _ _ = _
    rw [e1, bv_ok]
    show ev_gh (EV (127, 0, [ev_R 44 0], [], 0, 0) (1 + 1 + 382 + 1, l1, d1, w, tt, e, q)) _ _ = _
    rw [e2, gh_LC fl f2]
    show EV (282, 13, [ev_R 103 0, ev_R 27 0, ev_I (d2 104 0 0), ev_I (0 : Int32)], [], 383, 10459) (384, l2, d2, w, tt, e, q) = _
    rw [h104']
    exact x
  exact go 1 _ _ _ _ _ _ rfl rfl (fun _ => rfl)
end LAW
