/-! THE PROGRAM AGAINST THE REFERENCE, 57: trading and settings of the text are read -/
theorem ST_map {fc fr gc gr : ev_F} {lk : Nat → Nat → Nat → Bool} {b : Nat → Int32} {len q0 B R : Nat} {dc dr dr0 : Nat → Nat → Nat → Int32} (h : ST fc fr lk b len q0 B R dc dr) (hk : KT dr0 dr)
    (h1 : ∀ n o z d', (z = 0 ∨ z = 1) → EV fc (n, lk, dc, o) = some (.inl (some (ev_I z)), (n, lk, d', o)) → EV gc (n, lk, dc, o) = some (.inl (some (ev_I z)), (n, lk, d', o)))
    (h2 : ∀ n o z d', (z = 0 ∨ z = 1) → EV fr (n, lk, dr, o) = some (.inl (some (ev_I z)), (n, lk, d', o)) → EV gr (n, lk, dr0, o) = some (.inl (some (ev_I z)), (n, lk, d', o))) : ST gc gr lk b len q0 B R dc dr0 := by
  intro n o m u
  rcases h n o m u with ⟨dc', dr', q, C, e1, e2, f1, f2, g⟩ | ⟨dc', dr', e1, e2, f1, f2, g⟩
  · exact .inl ⟨dc', dr', q, C, h1 n o 1 dc' (.inr rfl) e1, h2 m u 1 dr' (.inr rfl) e2, f1, KT_t hk f2, g⟩
  · exact .inr ⟨dc', dr', h1 n o 0 dc' (.inl rfl) e1, h2 m u 0 dr' (.inl rfl) e2, f1, KT_t hk f2, g⟩
section EC44
variable {n : Nat} {lk : Nat → Nat → Nat → Bool} {d : Nat → Nat → Nat → Int32} {o : ev_W}
theorem em_once1 (hl : LK lk) {b : Nat → Int32} {len p k : Nat} (h : RH d b len p) (g : tb (d 44 0 13) k) :
    ∃ d', EV (144, 0, [ev_R 44 0, ev_I (Int32.ofNat k)], [], 0, 0) (n, lk, d, o) = some (.inl (some (ev_I 1)), (n, lk, d', o)) ∧ PF 44 6 9 (ev_u3 d 44 0 13 (d 44 0 13 ||| ((1 : Int32) <<< (Int32.ofNat k &&& 31)))) d' ∧ RH d' b len (tk_e b len p) := by
  have h' : RH (ev_u3 d 44 0 13 (d 44 0 13 ||| ((1 : Int32) <<< (Int32.ofNat k &&& 31)))) b len p := RH_47 h (u3n (by decide)) (fun k' hk' => u3x (by omega))
  obtain ⟨d', e, f, c⟩ := em_starts1 (n := n) (o := o) (x := 2) hl h'
  refine ⟨d', EV_bk (k := 400) ?_, f, c⟩
  rw [bk_144_0, if_pos (show ((d 44 0 13 >>> (Int32.ofNat k &&& 31)) &&& 1) = 0 from g), e]
  rfl
theorem em_once0 {b : Nat → Int32} {len p k : Nat} (h : RH d b len p) (g : ¬ tb (d 44 0 13) k) :
    ∃ d', EV (144, 0, [ev_R 44 0, ev_I (Int32.ofNat k)], [], 0, 0) (n, lk, d, o) = some (.inl (some (ev_I 0)), (n, lk, d', o)) ∧ KT d d' ∧ d' 44 0 10 = 2 ∧ d' 44 0 11 = Int32.ofNat (tk_s b len p) := by
  have h' : RH (ev_u3 d 44 0 13 (d 44 0 13 ||| ((1 : Int32) <<< (Int32.ofNat k &&& 31)))) b len p := RH_47 h (u3n (by decide)) (fun k' hk' => u3x (by omega))
  obtain ⟨d', e, f, c⟩ := em_starts0 (n := n) (lk := lk) (o := o) (x := 2) h'
  refine ⟨d', EV_bk (k := 400) ?_, KT_t (KT_44 (by decide) (by decide)) (KT_KR f), c⟩
  rw [bk_144_0, if_neg (show ¬ ((d 44 0 13 >>> (Int32.ofNat k &&& 31)) &&& 1) = 0 from g), e]
  rfl
end EC44
theorem st_trading {lk : Nat → Nat → Nat → Bool} {b : Nat → Int32} {len p B R C : Nat} {dc dr : Nat → Nat → Nat → Int32} (hl : LK lk) (hc : CT dc b len (tk_e b len p)) (h4 : dc 29 0 4 = Int32.ofNat (tk_s b len p)) (hr : RH dr b len p) (hq : QS dc dr B R C) :
    ST (38, 0, [ev_R 28 0], [], 0, 0) (144, 0, [ev_R 44 0, ev_I 7], [], 0, 0) lk b len (tk_e b len p) B R dc (ev_u3 dr 49 0 7 1) := by
  intro n o m u
  have l2 : lk 28 0 2 = true := hl 28 0 2 rfl (by decide) (by decide)
  have hr' : RH (ev_u3 dr 49 0 7 1) b len p := RH_47 hr (u3n (by decide)) (fun k' _ => by rw [u3n (by decide)])
  have e7 : dc 0 0 1 = dr 49 0 7 := hq.2.2.2.1.2.1.trans (pw_lo (by decide) C)
  have n13 : ev_u3 dr 49 0 7 1 44 0 13 = dr 44 0 13 := by rw [u3n (by decide)]
  by_cases z : tb (dr 44 0 13) 7
  · have e0 : dc 0 0 1 = 0 := e7.trans (hq.2.2.2.2.2.1.mpr z)
    obtain ⟨d', e, f, c⟩ := em_once1 (n := m) (o := u) (k := 7) hl hr' (by rw [n13]; exact z)
    rw [n13] at f
    have dr' : ∀ r, r ≠ 44 → r ≠ 49 → d' r = dr r := fun r x y => by rw [f.1 r x, u3n x, u3n y]
    have d49 : d' 49 0 = ev_u1 (dr 49 0) 7 1 := by rw [f.1 49 (by decide), u3n (by decide), u3r]
    have d13 : d' 44 0 13 = dr 44 0 13 ||| ((1 : Int32) <<< (Int32.ofNat 7 &&& 31)) := by rw [f.2 13 (by decide), u3s]
    have d14 : d' 44 0 14 = dr 44 0 14 := by rw [f.2 14 (by decide), u3x (by decide), u3n (by decide)]
    refine .inl ⟨ev_u3 dc 0 0 1 1, d', tk_e b len p, C, EV_bk (k := 400) ?_, e, KS_u (by decide), KT_t (KT_44 (k := 13) (by decide) (by decide)) (KT_KR (KR_PF f)), CT_u hc (by decide) (by decide), c, ?_, Nat.le_refl _⟩
    · rw [bk_38_0]
      simp only [l2, cond_true, e0, ↓reduceIte]
    · obtain ⟨q1, q2, q3, q6, q7, q8, ⟨q9, q9', q9'', -, q93⟩, q10⟩ := hq
      unfold QS
      rw [dr' 48 (by decide) (by decide), dr' 50 (by decide) (by decide), d49, d13, d14, u3n (r' := 24) (r := 0) (by decide), u3n (r' := 31) (r := 0) (by decide)]
      refine ⟨CL_d q1 (by rw [u3n (by decide)]) (by rw [u3n (by decide)]) (by rw [u3n (by decide)]), q2, q3, ?_, fun k hk => ?_, ?_, ⟨?_, ?_, ?_, .inr (u1s _ _ _), ?_⟩, q10⟩
      · exact CS_w (CS_trading q6) (fun j _ => pw_u (by decide) j)
      · rw [q7 k hk, tb_or (by decide) (by omega)]
        exact ⟨fun x => ⟨by omega, x⟩, fun x => x.2⟩
      · rw [u1s, tb_or (by decide) (by decide)]
        exact ⟨fun x => absurd x (by decide), fun x => absurd rfl x.1⟩
      · rw [u1n (by decide)]; exact q9
      · rw [u1n (by decide)]; exact q9'
      · rw [u1n (by decide)]; exact q9''
      · rw [u1n (by decide)]; exact q93
  · have e0 : ¬ dc 0 0 1 = 0 := fun v => z (hq.2.2.2.2.2.1.mp (e7.symm.trans v))
    obtain ⟨d', e, f, y1, y2⟩ := em_once0 (n := m) (lk := lk) (o := u) (k := 7) hr' (by rw [n13]; exact z)
    refine .inr ⟨ev_u3 (ev_u3 dc 28 0 5 2) 28 0 6 (dc 29 0 4), d', EV_bk (k := 400) ?_, e, KS_KC (KC_t KC_28 KC_28), f, PE_x (x := 2) (by decide) (by rw [u3x (by decide), u3s]) (by rw [u3s, h4]) y1 y2⟩
    rw [bk_38_0]
    simp (decide := true) only [l2, cond_true, e0, ↓reduceIte, ec_fail hl, ev_bi, ev_ok]
    rfl
theorem st_setting {lk : Nat → Nat → Nat → Bool} {b : Nat → Int32} {len p B R C k : Nat} {dc dr : Nat → Nat → Nat → Int32} (hl : LK lk) (hk : k < 7) (hc : CT dc b len (tk_e b len p)) (h4 : dc 29 0 4 = Int32.ofNat (tk_s b len p)) (hr : RH dr b len p) (hq : QS dc dr B R C) :
    ST (39, 0, [ev_R 28 0, ev_I (Int32.ofNat k)], [], 0, 0) (148, 0, [ev_R 44 0, ev_I (Int32.ofNat k)], [], 0, 0) lk b len (tk_e b len p) B R dc dr := by
  intro n o m u
  have l2 : lk 28 0 2 = true := hl 28 0 2 rfl (by decide) (by decide)
  have l3 : lk 28 0 3 = true := hl 28 0 3 rfl (by decide) (by decide)
  have l4 : lk 0 0 4 = true := hl 0 0 4 rfl (by decide) (by decide)
  have l5 : lk 44 0 16 = true := hl 44 0 16 rfl (by decide) (by decide)
  by_cases z : tb (dr 44 0 13) k
  · have e0 : dc 31 0 k = 0 := (hq.2.2.2.2.1 k hk).mpr z
    obtain ⟨rA, eA, fA, gA⟩ := em_once1 (n := m) (o := u) (k := k) hl hr z
    have kA : KT dr rA := KT_t (KT_44 (k := 13) (by decide) (by decide)) (KT_KR (KR_PF fA))
    have hc' := CT_u (r := 31) (i := 0) (k := k) (v := 1) hc (by decide) (by decide)
    have o1 := tk_ge2 (b := b) hc.1
    by_cases g1 : NG b len (tk_e b len p) (ev_sa 0 k) (ev_sa 1 k)
    · obtain ⟨d1, e1, f1, c1, v1, -⟩ := ec_num1 (n := n) (o := o) hl hc' g1
      obtain ⟨ra, ea, fa, ga, va⟩ := em_num1 (n := m) (o := u) hl gA g1
      obtain ⟨w, hwm, hw, hw1, hw2⟩ := NG_of hc.1 g1
      rw [hw] at v1 va
      have d1o : ∀ r, r ≠ 28 → r ≠ 29 → r ≠ 31 → d1 r = dc r := fun r x y t => by rw [f1.1 r x y, u3n t]
      have d131 : d1 31 0 = ev_u1 (dc 31 0) k 1 := by rw [f1.1 31 (by decide) (by decide), u3r]
      have rao : ∀ r, r ≠ 44 → ra r = dr r := fun r x => by rw [fa.1 r x, fA.1 r x, u3n x]
      have r13 : ra 44 0 13 = dr 44 0 13 ||| ((1 : Int32) <<< (Int32.ofNat k &&& 31)) := by rw [fa.2 13 (by decide), fA.2 13 (by decide), u3s]
      have r14 : ra 44 0 14 = dr 44 0 14 := by rw [fa.2 14 (by decide), fA.2 14 (by decide), u3x (by decide)]
      refine .inl ⟨ev_u3 d1 1 0 k (Int32.ofNat w), ev_u3 ra 49 0 k (Int32.ofNat w), _, C, EV_bk (k := 400) ?_, EV_bk (k := 400) ?_, KS_t KS_31 (KS_t (KS_KC f1) (KS_u (by decide))), KT_t kA (KT_t (KT_KR fa) (KT_u (by omega))), CT_u c1 (by decide) (by decide), RH_47 ga (u3n (by decide)) (fun k' _ => by rw [u3n (by decide)]), ?_, o1⟩
      · rw [bk_39_0]
        simp (decide := true) only [l2, l3, l4, cond_true, ni_in (n := k) (N := 7) (by omega) (by omega), ni_c (n := k) (by omega), e0, e1, ev_bi, ↓reduceIte, v1]
      · rw [bk_148_0, eA]
        simp (decide := true) only [ev_bi, ↓reduceIte, em_lowOf hk, em_highOf hk, ea, l5, cond_true, ni_in (n := k) (N := 8) (by omega) (by omega), ni_c (n := k) (by omega), va]
      · obtain ⟨q1, q2, q3, q6, q7, q8, ⟨q9, q9', q9'', q9z, q93⟩, q10⟩ := hq
        unfold QS
        rw [u3n (r' := 48) (r := 49) (by decide), u3n (r' := 50) (r := 49) (by decide), u3n (r' := 44) (r := 49) (by decide), u3r, rao 48 (by decide), rao 49 (by decide), rao 50 (by decide), r13, r14, u3n (r' := 24) (r := 1) (by decide), u3n (r' := 31) (r := 1) (by decide), d131, d1o 24 (by decide) (by decide) (by decide)]
        refine ⟨CL_d q1 (by rw [u3n (by decide), d1o 24 (by decide) (by decide) (by decide)]) (by rw [u3n (by decide), d1o 25 (by decide) (by decide) (by decide)]) (by rw [u3n (by decide), d1o 26 (by decide) (by decide) (by decide)]), q2, q3, ?_, fun j hj => ?_, ?_, ⟨?_, ?_, ?_, ?_, ?_⟩, q10⟩
        · exact CS_w (CS_setting (CS_d q6 (fun r hr' => by rw [d1o r (by omega) (by omega) (by omega)])) hk) (fun j _ => pw_u (by omega) j)
        · rw [tb_or (by omega) (by omega)]
          by_cases e : j = k
          · subst e
            rw [u1s]
            exact ⟨fun x => absurd x (by decide), fun x => absurd rfl x.1⟩
          · rw [u1n e, q7 j hj]
            exact ⟨fun x => ⟨e, x⟩, fun x => x.2⟩
        · rw [u1n (by omega), tb_or (by omega) (by decide), q8]
          exact ⟨fun x => ⟨by omega, x⟩, fun x => x.2⟩
        · by_cases e : 0 = k
          · subst e
            rw [u1s]
            exact ⟨w, (ni_le (b := 4) (by omega) (by omega)).mp hw2, rfl⟩
          · rw [u1n e]; exact q9
        · by_cases e : 1 = k
          · subst e
            rw [u1s]
            exact ⟨i32_le.mp hw1, i32_le.mp hw2⟩
          · rw [u1n e]; exact q9'
        · by_cases e : 2 = k
          · subst e
            rw [u1s]
            exact ⟨i32_le.mp hw1, i32_le.mp hw2⟩
          · rw [u1n e]; exact q9''
        · rw [u1n (by omega)]; exact q9z
        · by_cases e : 3 = k
          · subst e
            rw [u1s]
            exact ⟨i32_le.mp hw1, i32_le.mp hw2⟩
          · rw [u1n e]; exact q93
    · obtain ⟨d1, e1, f1, x1, x2⟩ := ec_num0 (n := n) (o := o) hl hc' g1
      obtain ⟨ra, ea, fa, y1, y2⟩ := em_num0 (n := m) (lk := lk) (o := u) gA g1
      refine .inr ⟨d1, ra, EV_bk (k := 400) ?_, EV_bk (k := 400) ?_, KS_t KS_31 (KS_KC f1), KT_t kA (KT_KR fa), PE_n x1 x2 y1 y2⟩
      · rw [bk_39_0]
        simp (decide := true) only [l2, l3, l4, cond_true, ni_in (n := k) (N := 7) (by omega) (by omega), ni_c (n := k) (by omega), e0, e1, ev_bi, ↓reduceIte]
      · rw [bk_148_0, eA]
        simp (decide := true) only [ev_bi, ↓reduceIte, em_lowOf hk, em_highOf hk, ea]
  · have e0 : ¬ dc 31 0 k = 0 := fun v => z ((hq.2.2.2.2.1 k hk).mp v)
    obtain ⟨rA, eA, fA, y1, y2⟩ := em_once0 (n := m) (lk := lk) (o := u) (k := k) hr z
    refine .inr ⟨ev_u3 (ev_u3 dc 28 0 5 2) 28 0 6 (dc 29 0 4), rA, EV_bk (k := 400) ?_, EV_bk (k := 400) ?_, KS_KC (KC_t KC_28 KC_28), fA, PE_x (x := 2) (by decide) (by rw [u3x (by decide), u3s]) (by rw [u3s, h4]) y1 y2⟩
    · rw [bk_39_0]
      simp (decide := true) only [l2, l3, cond_true, ni_in (n := k) (N := 7) (by omega) (by omega), ni_c (n := k) (by omega), e0, ↓reduceIte, ec_fail hl, ev_bi, ev_ok]
      rfl
    · rw [bk_148_0, eA]
      simp (decide := true) only [ev_bi, ↓reduceIte]
