/-! THE PROGRAM AGAINST THE REFERENCE, 63: the statements of a text are read -/
theorem pr_loop {lk : Nat → Nat → Nat → Bool} (hl : LK lk) {b : Nat → Int32} {len B R : Nat} {x : Int32} (n : Nat) (o : ev_W) (m : Nat) (u : ev_W) : ∀ f p i C (dc dr : Nat → Nat → Nat → Int32), len - p ≤ f → CT dc b len p → RH dr b len p → QS dc dr B R C → i ≤ p →
    (∃ dc' dr' C', EV (31, 12, [ev_R 28 0, ev_I x, ev_I 1, ev_I (Int32.ofNat i)], [], 0, 0) (n, lk, dc, o) = some (.inl (some (ev_I 0)), (n, lk, dc', o)) ∧ (∀ dz, EV (152, 0, [ev_R 44 0], [], 0, 0) (m, lk, dr', u) = some (.inl none, (m, lk, dz, u)) → EV (151, 136, [ev_R 44 0, ev_I x, ev_I 1], [], 0, 0) (m, lk, dr, u) = some (.inl (some (ev_I 0)), (m, lk, dz, u))) ∧ KS dc dc' ∧ KT dr dr' ∧ QS dc' dr' B R C' ∧ dr' 44 0 11 = -1) ∨
    ∃ dc' dr', EV (31, 12, [ev_R 28 0, ev_I x, ev_I 1, ev_I (Int32.ofNat i)], [], 0, 0) (n, lk, dc, o) = some (.inl (some (ev_I (dc' 28 0 5))), (n, lk, dc', o)) ∧ EV (151, 136, [ev_R 44 0, ev_I x, ev_I 1], [], 0, 0) (m, lk, dr, u) = some (.inl (some (ev_I (dr' 44 0 10))), (m, lk, dr', u)) ∧ KS dc dc' ∧ KT dr dr' ∧ PE dc' dr' := by
  have l0 : lk 28 0 0 = true := hl 28 0 0 rfl (by decide) (by decide)
  intro f
  induction f with
  | zero =>
    intro p i C dc dr hf hc hr hq hi
    have hp := hc.1
    have h600 := hc.2.1
    obtain ⟨d1, e1, f1, g1, k1, s1⟩ := ec_tok (n := n) (o := o) hl hc
    have hp' : ¬ tk_s b len p < len := by
      have := (tk_sle (b := b) hp).1
      omega
    have hk : tk_k b len p = 0 := by
      unfold tk_k
      rw [if_neg hp']
    have hi6 : Int32.ofNat i ≤ 600 := (ni_le (b := 600) (by omega) (by omega)).mpr (by omega)
    refine .inl ⟨d1, dr, C, EV_bk (k := 400) ?_, fun dz hz => EV_bk (k := 400) ?_, KS_KC (KC_PF f1), KT_KR (KR_PF (PF_r dr)), QS_K hq (KC_PF f1) (KR_PF (PF_r dr)), hr.2.2.2.2⟩
    · rw [bk_31_12]
      simp (decide := true) only [↓reduceIte, hi6, l0, cond_true, e1, ev_bv, k1, hk]
    · rw [bk_151_136, hr.2.2.1.2.2.1, hk]
      simp (decide := true) only [↓reduceIte, hz, ev_bv]
  | succ f ih =>
    intro p i C dc dr hf hc hr hq hi
    have hp := hc.1
    have h600 := hc.2.1
    obtain ⟨d1, e1, f1, g1, k1, s1⟩ := ec_tok (n := n) (o := o) hl hc
    have hi6 : Int32.ofNat i ≤ 600 := (ni_le (b := 600) (by omega) (by omega)).mpr (by omega)
    by_cases hk : tk_k b len p = 0
    · refine .inl ⟨d1, dr, C, EV_bk (k := 400) ?_, fun dz hz => EV_bk (k := 400) ?_, KS_KC (KC_PF f1), KT_KR (KR_PF (PF_r dr)), QS_K hq (KC_PF f1) (KR_PF (PF_r dr)), hr.2.2.2.2⟩
      · rw [bk_31_12]
        simp (decide := true) only [↓reduceIte, hi6, l0, cond_true, e1, ev_bv, k1, hk]
      · rw [bk_151_136, hr.2.2.1.2.2.1, hk]
        simp (decide := true) only [↓reduceIte, hz, ev_bv]
    · have hlt : tk_s b len p < len := by
        by_cases z : tk_s b len p < len
        · exact z
        · unfold tk_k at hk
          rw [if_neg z] at hk
          exact absurd rfl hk
      have hgt : p < tk_e b len p := Nat.lt_of_le_of_lt (tk_sle hp).1 ((tk_ele hp).2.2 hlt)
      have q1 := QS_K hq (KC_PF f1) (KR_PF (PF_r dr))
      have k8 : ¬ dr 44 0 8 = 0 := by rw [hr.2.2.1.2.2.1]; exact hk
      have k3 : ¬ d1 29 0 3 = 0 := by rw [k1]; exact hk
      rcases st_all hl ⟨hp, g1, k1, s1⟩ hr q1 n o m u with ⟨d2, r2, q, C', e2, x2, f2, y2, g2, h2, q2, hq2⟩ | ⟨d2, r2, e2, x2, f2, y2, pe⟩
      · by_cases hs : tk_k b len q = 3
        · obtain ⟨d3, e3, f3, g3⟩ := ec_semi1 (n := n) (o := o) hl g2 hs
          obtain ⟨r3, x3, y3, h3⟩ := em_semi1 (n := m) (o := u) hl h2 hs
          have hq3 := tk_ge2 (b := b) g2.1
          have ks : KS dc d3 := KS_t (KS_KC (KC_PF f1)) (KS_t f2 (KS_KC f3))
          have kt : KT dr r3 := KT_t y2 (KT_KR y3)
          have pre : ∀ t, EV (31, 12, [ev_R 28 0, ev_I x, ev_I 1, ev_I (Int32.ofNat (i + 1))], [], 0, 0) (n, lk, d3, o) = some t → EV (31, 12, [ev_R 28 0, ev_I x, ev_I 1, ev_I (Int32.ofNat i)], [], 0, 0) (n, lk, dc, o) = some t := fun t ht => by
            refine EV_bk (k := 400) ?_
            rw [bk_31_12]
            simp (decide := true) only [↓reduceIte, hi6, l0, cond_true, e1, ev_bv, k3, ev_bi, e2, e3, ni_1]
            exact ht
          have prr : ∀ t, EV (151, 136, [ev_R 44 0, ev_I x, ev_I 1], [], 0, 0) (m, lk, r3, u) = some t → EV (151, 136, [ev_R 44 0, ev_I x, ev_I 1], [], 0, 0) (m, lk, dr, u) = some t := fun t ht => by
            refine EV_bk (k := 400) ?_
            rw [bk_151_136]
            simp (decide := true) only [↓reduceIte, k8, ev_bi, x2, x3]
            exact ht
          rcases ih (tk_e b len q) (i + 1) C' d3 r3 (by omega) g3 h3 (QS_K q2 f3 y3) (by omega) with ⟨dc', dr', C'', z1, z2, z3, z4, z5⟩ | ⟨dc', dr', z1, z2, z3, z4, z5⟩
          · exact .inl ⟨dc', dr', C'', pre _ z1, fun dz hz => prr _ (z2 dz hz), KS_t ks z3, KT_t kt z4, z5⟩
          · exact .inr ⟨dc', dr', pre _ z1, prr _ z2, KS_t ks z3, KT_t kt z4, z5⟩
        · obtain ⟨d3, e3, f3, y1, y2'⟩ := ec_semi0 (n := n) (o := o) hl g2 hs
          obtain ⟨r3, x3, y3, y4, y5⟩ := em_semi0 (n := m) (lk := lk) (o := u) h2 hs
          refine .inr ⟨d3, r3, EV_bk (k := 400) ?_, EV_bk (k := 400) ?_, KS_t (KS_KC (KC_PF f1)) (KS_t f2 (KS_KC f3)), KT_t y2 (KT_KR y3), PE_x (x := 1) (by decide) y1 y2' y4 y5⟩
          · rw [bk_31_12]
            simp (decide := true) only [↓reduceIte, hi6, l0, cond_true, e1, ev_bv, k3, ev_bi, e2, e3]
            refine EV_bk (k := 400) ?_
            rw [bk_31_12, if_pos rfl]
          · rw [bk_151_136]
            simp (decide := true) only [↓reduceIte, k8, ev_bi, x2, x3]
            refine EV_bk (k := 400) ?_
            rw [bk_151_136, if_pos rfl, if_pos rfl]
      · refine .inr ⟨d2, r2, EV_bk (k := 400) ?_, EV_bk (k := 400) ?_, KS_t (KS_KC (KC_PF f1)) f2, y2, pe⟩
        · rw [bk_31_12]
          simp (decide := true) only [↓reduceIte, hi6, l0, cond_true, e1, ev_bv, k3, ev_bi, e2]
          refine EV_bk (k := 400) ?_
          rw [bk_31_12, if_pos rfl]
        · rw [bk_151_136]
          simp (decide := true) only [↓reduceIte, k8, ev_bi, x2]
          refine EV_bk (k := 400) ?_
          rw [bk_151_136, if_pos rfl, if_pos rfl]
