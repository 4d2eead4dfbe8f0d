/-! THE PROGRAM AGAINST THE REFERENCE, 49: the next token, in the program -/
theorem tk_sle {b : Nat → Int32} {len p : Nat} (h : p ≤ len) : p ≤ tk_s b len p ∧ tk_s b len p ≤ len := by
  obtain ⟨h1, h2, -⟩ := tk_gle (q := tk_q 5) (b := b) (len := len) (len - p) p (by omega)
  exact ⟨h1, h2⟩
theorem tk_ele {b : Nat → Int32} {len p : Nat} (h : p ≤ len) : tk_s b len p ≤ tk_e b len p ∧ tk_e b len p ≤ len ∧ (tk_s b len p < len → tk_s b len p < tk_e b len p) := by
  obtain ⟨h1, h2⟩ := tk_sle (b := b) h
  unfold tk_e
  by_cases z : tk_s b len p < len
  · rw [if_pos z]
    by_cases y : tk_z b len p = 1 ∨ tk_z b len p = 2
    · rw [if_pos y]
      obtain ⟨h3, h4, -⟩ := tk_gle (q := tk_q (tk_z b len p)) (b := b) (len := len) (len - (tk_s b len p + 1)) (tk_s b len p + 1) (by omega)
      omega
    · rw [if_neg y]
      omega
  · rw [if_neg z]
    omega
section EC38
variable {n : Nat} {lk : Nat → Nat → Nat → Bool} {d : Nat → Nat → Nat → Int32} {o : ev_W}
theorem ec_scan (hl : LK lk) {b : Nat → Int32} {len p : Nat} (hp : p ≤ len) (hlen : len ≤ 600) (h5 : d 29 0 5 = Int32.ofNat p) (h2 : d 29 0 2 = Int32.ofNat len) (hb : ∀ x, x < len → d 30 0 x = b x) :
    ∃ d', EV (20, 0, [ev_R 29 0], [], 0, 0) (n, lk, d, o) = some (.inl none, (n, lk, d', o)) ∧ PF 29 3 5 d d' ∧ d' 29 0 3 = tk_k b len p ∧ d' 29 0 4 = Int32.ofNat (tk_s b len p) ∧ d' 29 0 5 = Int32.ofNat (tk_e b len p) := by
  have loop : ∀ j k, k + j = len → p ≤ k → tk_s b len k = tk_s b len p → ∀ d : Nat → Nat → Nat → Int32, d 29 0 4 = Int32.ofNat k → d 29 0 2 = Int32.ofNat len → (∀ x, x < len → d 30 0 x = b x) →
      ∃ d', EV (20, 8, [ev_R 29 0], [], 0, 0) (n, lk, d, o) = some (.inl none, (n, lk, d', o)) ∧ PF 29 3 5 d d' ∧ d' 29 0 3 = tk_k b len p ∧ d' 29 0 4 = Int32.ofNat (tk_s b len p) ∧ d' 29 0 5 = Int32.ofNat (tk_e b len p) := by
    have fin : ∀ k, tk_s b len p = k → k < len → ∀ d : Nat → Nat → Nat → Int32, d 29 0 4 = Int32.ofNat k → d 29 0 2 = Int32.ofNat len → (∀ x, x < len → d 30 0 x = b x) →
        ∃ d', (if tk_c (b k) = (1 : Int32) then EV (20, 121, [ev_R 29 0, ev_I (1 : Int32)], [], 0, 0) (n, lk, ev_u3 (ev_u3 (ev_u3 d 29 0 5 (Int32.ofNat k)) 29 0 3 (tk_c (b k))) 29 0 5 (Int32.ofNat (k + 1)), o) else if tk_c (b k) = (2 : Int32) then EV (20, 121, [ev_R 29 0, ev_I (1 : Int32)], [], 0, 0) (n, lk, ev_u3 (ev_u3 (ev_u3 d 29 0 5 (Int32.ofNat k)) 29 0 3 (tk_c (b k))) 29 0 5 (Int32.ofNat (k + 1)), o) else EV (20, 121, [ev_R 29 0, ev_I (0 : Int32)], [], 0, 0) (n, lk, ev_u3 (ev_u3 (ev_u3 d 29 0 5 (Int32.ofNat k)) 29 0 3 (tk_c (b k))) 29 0 5 (Int32.ofNat (k + 1)), o)) = some (.inl none, (n, lk, d', o)) ∧ PF 29 3 5 d d' ∧ d' 29 0 3 = tk_k b len p ∧ d' 29 0 4 = Int32.ofNat (tk_s b len p) ∧ d' 29 0 5 = Int32.ofNat (tk_e b len p) := by
      intro k hk hlt d h4 h2 hb
      have fr : PF 29 3 5 d (ev_u3 (ev_u3 (ev_u3 d 29 0 5 (Int32.ofNat k)) 29 0 3 (tk_c (b k))) 29 0 5 (Int32.ofNat (k + 1))) := PF_t (PF_t (PF_u (by decide) (by decide)) (PF_u (by decide) (by decide))) (PF_u (by decide) (by decide))
      have g3 : ev_u3 (ev_u3 (ev_u3 d 29 0 5 (Int32.ofNat k)) 29 0 3 (tk_c (b k))) 29 0 5 (Int32.ofNat (k + 1)) 29 0 3 = tk_c (b k) := by rw [u3x (by decide), u3s]
      have g4 : ev_u3 (ev_u3 (ev_u3 d 29 0 5 (Int32.ofNat k)) 29 0 3 (tk_c (b k))) 29 0 5 (Int32.ofNat (k + 1)) 29 0 4 = Int32.ofNat k := by rw [u3x (by decide), u3x (by decide), u3x (by decide), h4]
      have g5 : ev_u3 (ev_u3 (ev_u3 d 29 0 5 (Int32.ofNat k)) 29 0 3 (tk_c (b k))) 29 0 5 (Int32.ofNat (k + 1)) 29 0 5 = Int32.ofNat (k + 1) := u3s
      generalize ev_u3 (ev_u3 (ev_u3 d 29 0 5 (Int32.ofNat k)) 29 0 3 (tk_c (b k))) 29 0 5 (Int32.ofNat (k + 1)) = d1 at *
      have zz : tk_z b len p = tk_c (b k) := by unfold tk_z; rw [hk]
      have hk0 : tk_k b len p = tk_l (tk_c (b k)) (tk_e b len p - k) := by
        unfold tk_k
        rw [hk, if_pos hlt, zz]
      have he : tk_e b len p = if tk_c (b k) = 1 ∨ tk_c (b k) = 2 then tk_g (tk_q (tk_c (b k))) b len (k + 1) else k + 1 := by
        unfold tk_e
        rw [hk, if_pos hlt, zz]
      by_cases c12 : tk_c (b k) = 1 ∨ tk_c (b k) = 2
      · rw [if_pos c12] at he
        obtain ⟨d', e, f, f3, f4, f5⟩ := ec_runs (n := n) (lk := lk) (o := o) hl (b := b) (len := len) (s := k) hlen c12 (len - (k + 1)) (k + 1) (by omega) (by omega) d1 g3 g4 g5 (by rw [fr.2 2 (by decide), h2]) (fun x hx => by rw [fr.1 30 (by decide), hb x hx])
        refine ⟨d', ?_, PF_t fr f, by rw [f3, hk0, he], by rw [f4, hk], by rw [f5, he]⟩
        rcases c12 with v | v
        · rw [if_pos v]
          exact e
        · rw [if_neg (show ¬ tk_c (b k) = 1 by rw [v]; decide), if_pos v]
          exact e
      · rw [if_neg c12] at he
        refine ⟨d1, ?_, fr, ?_, by rw [g4, hk], by rw [g5, he]⟩
        · rw [if_neg (fun v => c12 (.inl v)), if_neg (fun v => c12 (.inr v))]
          refine EV_bk (k := 400) ?_
          rw [bk_20_121, if_pos rfl, if_pos rfl]
        · rw [g3, hk0]
          unfold tk_l
          rw [if_neg (fun v => c12 (.inl v)), if_neg (fun v => c12 (.inr v))]
    intro j
    induction j with
    | zero =>
      intro k hk hpk hs d h4 h2 hb
      have hk' : tk_s b len p = k := by
        rw [← hs]
        exact tk_ge (by omega)
      have hlt : ¬ tk_s b len p < len := by omega
      refine ⟨ev_u3 (ev_u3 d 29 0 5 (Int32.ofNat k)) 29 0 3 0, EV_bk (k := 400) ?_, PF_t (PF_u (by decide) (by decide)) (PF_u (by decide) (by decide)), ?_, ?_, ?_⟩
      · rw [bk_20_8, h4, if_neg (show ¬ Int32.ofNat k < d 29 0 2 by
          rw [h2]
          intro v
          have := (ni_lt (by omega) (by omega)).mp v
          omega), u3x (by decide), u3x (by decide), h4, h2, if_neg (show ¬ Int32.ofNat k < Int32.ofNat len by
          intro v
          have := (ni_lt (by omega) (by omega)).mp v
          omega)]
      · unfold tk_k
        rw [u3s, if_neg hlt]
      · rw [u3x (by decide), u3x (by decide), h4, hk']
      · unfold tk_e
        rw [u3x (by decide), u3s, if_neg hlt, hk']
    | succ j ih =>
      intro k hk hpk hs d h4 h2 hb
      have hlt : Int32.ofNat k < Int32.ofNat len := (ni_lt (by omega) (by omega)).mpr (by omega)
      by_cases z : tk_c (b k) = 5
      · obtain ⟨d', e, f, g⟩ := ih (k + 1) (by omega) (by omega) (by rw [← hs]; exact (tk_gs (by omega) (show tk_q 5 (b k) = true from decide_eq_true z)).symm) (ev_u3 d 29 0 4 (Int32.ofNat (k + 1))) u3s (by rw [u3x (by decide), h2]) (fun x hx => by rw [u3n (by decide), hb x hx])
        refine ⟨d', EV_bk (k := 400) ?_, PF_t (PF_u (by decide) (by decide)) f, g⟩
        rw [bk_20_8, h4, h2, if_pos hlt, hl 29 0 0 rfl (by decide) (by decide), cond_true]
        simp only [ni_in (n := k) (N := 600) (by omega) (by omega), ni_c (n := k) (by omega), cond_true, hb k (by omega)]
        rw [ec_sort]
        simp only [ev_bi]
        rw [if_pos z, h4, ni_1]
        exact e
      · have hk' : tk_s b len p = k := by
          rw [← hs]
          exact tk_gn (by omega) (show ¬ tk_q 5 (b k) = true from fun v => z (of_decide_eq_true v))
        obtain ⟨d', e, f⟩ := fin k hk' (by omega) d h4 h2 hb
        refine ⟨d', EV_bk (k := 400) ?_, f⟩
        rw [bk_20_8, h4, h2, if_pos hlt, hl 29 0 0 rfl (by decide) (by decide), cond_true]
        simp only [ni_in (n := k) (N := 600) (by omega) (by omega), ni_c (n := k) (by omega), cond_true, hb k (by omega)]
        rw [ec_sort]
        simp only [ev_bi]
        rw [if_neg z, if_pos (show ev_u3 d 29 0 5 (d 29 0 4) 29 0 4 < ev_u3 d 29 0 5 (d 29 0 4) 29 0 2 by rw [u3x (by decide), u3x (by decide), h4, h2]; exact hlt)]
        simp only [h4, u3x (show (4 : Nat) ≠ 5 by decide)]
        simp only [hl 29 0 0 rfl (by decide) (by decide), ni_in (n := k) (N := 600) (by omega) (by omega), ni_c (n := k) (by omega), cond_true, hb k (by omega), u3n (show (30 : Nat) ≠ 29 by decide)]
        rw [ec_sort]
        simp only [ev_bi]
        rw [show ∀ (e : Nat → Nat → Nat → Int32), ev_u3 (ev_u3 (ev_u3 e 29 0 5 (Int32.ofNat k)) 29 0 3 (tk_c (b k))) 29 0 5 (ev_u3 (ev_u3 e 29 0 5 (Int32.ofNat k)) 29 0 3 (tk_c (b k)) 29 0 5 + 1) = ev_u3 (ev_u3 (ev_u3 e 29 0 5 (Int32.ofNat k)) 29 0 3 (tk_c (b k))) 29 0 5 (Int32.ofNat (k + 1)) from fun e => by rw [u3x (by decide), u3s, ni_1], u3x (by decide), u3s]
        exact e
  obtain ⟨d', e, f, g⟩ := loop (len - p) p (by omega) (Nat.le_refl _) rfl (ev_u3 d 29 0 4 (Int32.ofNat p)) u3s (by rw [u3x (by decide), h2]) (fun x hx => by rw [u3n (by decide), hb x hx])
  refine ⟨d', EV_bk (k := 400) ?_, PF_t (PF_u (by decide) (by decide)) f, g⟩
  rw [bk_20_0, h5]
  exact e
end EC38
