/-! THE PROGRAM AGAINST THE REFERENCE, 58: a statement of the text is read -/
section EC45
variable {n : Nat} {lk : Nat → Nat → Nat → Bool} {d : Nat → Nat → Nat → Int32} {o : ev_W}
theorem ec_wordOf {k : Nat} (hk : k < 7) {μ : ev_M} : EV (42, 0, [ev_I (Int32.ofNat k)], [], 0, 0) μ = some (.inl (some (ev_R 100 (1 + (4 + k)))), μ) := by
  obtain ⟨n, lk, d, o⟩ := μ
  refine EV_bk (k := 400) ?_
  rw [bk_42_0]
  match k, hk with
  | 0, _ => simp (decide := true) only [↓reduceIte]
  | 1, _ => simp (decide := true) only [↓reduceIte]
  | 2, _ => simp (decide := true) only [↓reduceIte]
  | 3, _ => simp (decide := true) only [↓reduceIte]
  | 4, _ => simp (decide := true) only [↓reduceIte]
  | 5, _ => simp (decide := true) only [↓reduceIte]
  | 6, _ => simp (decide := true) only [↓reduceIte]
end EC45
theorem z01 {z : Int32} (h : z = 0 ∨ z = 1) : ev_ok 2 z = true := by
  rcases h with e | e <;> rw [e] <;> decide
/-- the program has scanned the token at p -/
def CW (d : Nat → Nat → Nat → Int32) (b : Nat → Int32) (len p : Nat) : Prop := p ≤ len ∧ CT d b len (tk_e b len p) ∧ d 29 0 3 = tk_k b len p ∧ d 29 0 4 = Int32.ofNat (tk_s b len p)
theorem st_all {lk : Nat → Nat → Nat → Bool} {b : Nat → Int32} {len p B R C : Nat} {dc dr : Nat → Nat → Nat → Int32} (hl : LK lk) (hc : CW dc b len p) (hr : RH dr b len p) (hq : QS dc dr B R C) :
    ST (35, 0, [ev_R 28 0], [], 0, 0) (149, 0, [ev_R 44 0], [], 0, 0) lk b len (tk_e b len p) B R dc dr := by
  obtain ⟨hp, hc, h3, h4⟩ := hc
  have l0 : lk 28 0 0 = true := hl 28 0 0 rfl (by decide) (by decide)
  have l5 : lk 44 0 16 = true := hl 44 0 16 rfl (by decide) (by decide)
  have cw := fun (n : Nat) (o : ev_W) k (hk : k < 11) => ec_isWord (n := n) (o := o) hl (tk_ok1 hk) hp hc.2.1 h3 h4 hc.2.2.2.2 hc.2.2.2.1
  have rw' := fun (n : Nat) (o : ev_W) k (hk : k < 11) => em_isWord (n := n) (o := o) hl (tk_ok2 hk) hp hr.2.1 hr.2.2.1
  have r1 : ∀ n o k, k < 11 → tk_is b len p (1 + k) → EV (138, 0, [ev_R 44 0, ev_R 100 (24 + k)], [], 0, 0) (n, lk, dr, o) = some (.inl (some (ev_I 1)), (n, lk, dr, o)) := fun n o k hk v => (rw' n o k hk).1 ((tk_is2 hk).mp v)
  have r0 : ∀ n o k, k < 11 → ¬ tk_is b len p (1 + k) → EV (138, 0, [ev_R 44 0, ev_R 100 (24 + k)], [], 0, 0) (n, lk, dr, o) = some (.inl (some (ev_I 0)), (n, lk, dr, o)) := fun n o k hk v => (rw' n o k hk).2 (fun x => v ((tk_is2 hk).mpr x))
  by_cases a1 : tk_is b len p (1 + 1)
  · refine ST_map (st_weak hl hc hr hq) (KT_KR (KR_PF (PF_r dr))) (fun n o z d' hz e => ?_) (fun n o z d' hz e => ?_)
    · refine EV_bk (k := 400) ?_
      rw [bk_35_0]
      simp (decide := true) only [l0, cond_true, (cw n o 1 (by decide)).1 a1, ev_bi, ↓reduceIte, e, z01 hz]
    · refine EV_bk (k := 400) ?_
      rw [bk_149_0]
      simp (decide := true) only [r1 n o 1 (by decide) a1, ev_bi, ↓reduceIte, e, z01 hz, cond_true]
  · by_cases a2 : tk_is b len p (1 + 2)
    · refine ST_map (st_ask hl hc h4 hr hq) (KT_KR (KR_PF (PF_r dr))) (fun n o z d' hz e => ?_) (fun n o z d' hz e => ?_)
      · refine EV_bk (k := 400) ?_
        rw [bk_35_0]
        simp (decide := true) only [l0, cond_true, (cw n o 1 (by decide)).2 a1, (cw n o 2 (by decide)).1 a2, ev_bi, ↓reduceIte, e, z01 hz]
      · refine EV_bk (k := 400) ?_
        rw [bk_149_0]
        simp (decide := true) only [r0 n o 1 (by decide) a1, r1 n o 2 (by decide) a2, ev_bi, ↓reduceIte, e, z01 hz, cond_true]
    · by_cases a3 : tk_is b len p (1 + 3)
      · refine ST_map (st_trading hl hc h4 hr hq) (KT_u (by omega)) (fun n o z d' hz e => ?_) (fun n o z d' hz e => ?_)
        · refine EV_bk (k := 400) ?_
          rw [bk_35_0]
          simp (decide := true) only [l0, cond_true, (cw n o 1 (by decide)).2 a1, (cw n o 2 (by decide)).2 a2, (cw n o 3 (by decide)).1 a3, ev_bi, ↓reduceIte, e, z01 hz]
        · refine EV_bk (k := 400) ?_
          rw [bk_149_0]
          simp (decide := true) only [r0 n o 1 (by decide) a1, r0 n o 2 (by decide) a2, r1 n o 3 (by decide) a3, ev_bi, ↓reduceIte, l5, e, z01 hz, cond_true]
      · have c0 : ∀ n o t, EV (35, 53, [ev_R 28 0, ev_I (Int32.ofNat 0)], [], 0, 0) (n, lk, dc, o) = some t → EV (35, 0, [ev_R 28 0], [], 0, 0) (n, lk, dc, o) = some t := fun n o t e => by
          refine EV_bk (k := 400) ?_
          rw [bk_35_0]
          simp (decide := true) only [l0, cond_true, (cw n o 1 (by decide)).2 a1, (cw n o 2 (by decide)).2 a2, (cw n o 3 (by decide)).2 a3, ev_bi, ↓reduceIte]
          exact e
        have cs : ∀ n o k t, k < 7 → ¬ tk_is b len p (1 + (4 + k)) → EV (35, 53, [ev_R 28 0, ev_I (Int32.ofNat (k + 1))], [], 0, 0) (n, lk, dc, o) = some t → EV (35, 53, [ev_R 28 0, ev_I (Int32.ofNat k)], [], 0, 0) (n, lk, dc, o) = some t := fun n o k t hk a e => by
          have hlt : Int32.ofNat k < 7 := (ni_lt (b := 7) (by omega) (by omega)).mpr hk
          refine EV_bk (k := 400) ?_
          rw [bk_35_53]
          simp (decide := true) only [hlt, ↓reduceIte, l0, cond_true, ec_wordOf hk, ev_br, (cw n o (4 + k) (by omega)).2 a, ev_bi, ni_1]
          exact e
        have ch : ∀ n o k z d', k < 7 → (z = 0 ∨ z = 1) → tk_is b len p (1 + (4 + k)) → EV (39, 0, [ev_R 28 0, ev_I (Int32.ofNat k)], [], 0, 0) (n, lk, dc, o) = some (.inl (some (ev_I z)), (n, lk, d', o)) → EV (35, 53, [ev_R 28 0, ev_I (Int32.ofNat k)], [], 0, 0) (n, lk, dc, o) = some (.inl (some (ev_I z)), (n, lk, d', o)) := fun n o k z d' hk hz a e => by
          have hlt : Int32.ofNat k < 7 := (ni_lt (b := 7) (by omega) (by omega)).mpr hk
          refine EV_bk (k := 400) ?_
          rw [bk_35_53]
          simp (decide := true) only [hlt, ↓reduceIte, l0, cond_true, ec_wordOf hk, ev_br, (cw n o (4 + k) (by omega)).1 a, ev_bi, e, z01 hz]
        have cf : ∀ n o z d', z = 0 ∨ z = 1 → EV (33, 0, [ev_R 28 0, ev_I 1], [], 0, 0) (n, lk, dc, o) = some (.inl (some (ev_I z)), (n, lk, d', o)) → EV (35, 53, [ev_R 28 0, ev_I (Int32.ofNat 7)], [], 0, 0) (n, lk, dc, o) = some (.inl (some (ev_I z)), (n, lk, d', o)) := fun n o z d' hz e => by
          refine EV_bk (k := 400) ?_
          rw [bk_35_53]
          simp (decide := true) only [↓reduceIte, ev_bi, e, z01 hz, cond_true]
        have rs : ∀ n o k z d', k < 7 → (z = 0 ∨ z = 1) → EV (147, 0, [ev_R 44 0], [], 0, 0) (n, lk, dr, o) = some (.inl (some (ev_I (Int32.ofNat k))), (n, lk, dr, o)) → EV (148, 0, [ev_R 44 0, ev_I (Int32.ofNat k)], [], 0, 0) (n, lk, dr, o) = some (.inl (some (ev_I z)), (n, lk, d', o)) → EV (149, 0, [ev_R 44 0], [], 0, 0) (n, lk, dr, o) = some (.inl (some (ev_I z)), (n, lk, d', o)) := fun n o k z d' hk hz f e => by
          have hne : ¬ Int32.ofNat k = -1 := fun v => by
            have := ni_lo (k := k) (by omega)
            rw [v] at this
            exact absurd this (by decide)
          refine EV_bk (k := 400) ?_
          rw [bk_149_0]
          simp (decide := true) only [r0 n o 1 (by decide) a1, r0 n o 2 (by decide) a2, r0 n o 3 (by decide) a3, ev_bi, ↓reduceIte, f, hne, e, z01 hz, cond_true]
        have rf : ∀ n o z d', (z = 0 ∨ z = 1) → EV (147, 0, [ev_R 44 0], [], 0, 0) (n, lk, dr, o) = some (.inl (some (ev_I (-1))), (n, lk, dr, o)) → EV (139, 0, [ev_R 44 0, ev_I 1], [], 0, 0) (n, lk, dr, o) = some (.inl (some (ev_I z)), (n, lk, d', o)) → EV (149, 0, [ev_R 44 0], [], 0, 0) (n, lk, dr, o) = some (.inl (some (ev_I z)), (n, lk, d', o)) := fun n o z d' hz f e => by
          refine EV_bk (k := 400) ?_
          rw [bk_149_0]
          simp (decide := true) only [r0 n o 1 (by decide) a1, r0 n o 2 (by decide) a2, r0 n o 3 (by decide) a3, ev_bi, ↓reduceIte, f, e, z01 hz, cond_true]
        by_cases s0 : tk_is b len p (1 + (4 + 0))
        · refine ST_map (st_setting (k := 0) hl (by decide) hc h4 hr hq) (KT_KR (KR_PF (PF_r dr))) (fun n o z d' hz e => c0 _ _ _ (ch _ _ 0 _ _ (by decide) hz s0 e)) (fun n o z d' hz e => rs _ _ 0 _ _ (by decide) hz (EV_bk (k := 400) ?_) e)
          rw [bk_147_0]
          simp (decide := true) only [r1 n o (4 + 0) (by decide) s0, ev_bi, ↓reduceIte]
          rfl
        · by_cases s1 : tk_is b len p (1 + (4 + 1))
          · refine ST_map (st_setting (k := 1) hl (by decide) hc h4 hr hq) (KT_KR (KR_PF (PF_r dr))) (fun n o z d' hz e => c0 _ _ _ (cs _ _ 0 _ (by decide) s0 (ch _ _ 1 _ _ (by decide) hz s1 e))) (fun n o z d' hz e => rs _ _ 1 _ _ (by decide) hz (EV_bk (k := 400) ?_) e)
            rw [bk_147_0]
            simp (decide := true) only [r0 n o (4 + 0) (by decide) s0, r1 n o (4 + 1) (by decide) s1, ev_bi, ↓reduceIte]
            rfl
          · by_cases s2 : tk_is b len p (1 + (4 + 2))
            · refine ST_map (st_setting (k := 2) hl (by decide) hc h4 hr hq) (KT_KR (KR_PF (PF_r dr))) (fun n o z d' hz e => c0 _ _ _ (cs _ _ 0 _ (by decide) s0 (cs _ _ 1 _ (by decide) s1 (ch _ _ 2 _ _ (by decide) hz s2 e)))) (fun n o z d' hz e => rs _ _ 2 _ _ (by decide) hz (EV_bk (k := 400) ?_) e)
              rw [bk_147_0]
              simp (decide := true) only [r0 n o (4 + 0) (by decide) s0, r0 n o (4 + 1) (by decide) s1, r1 n o (4 + 2) (by decide) s2, ev_bi, ↓reduceIte]
              rfl
            · by_cases s3 : tk_is b len p (1 + (4 + 3))
              · refine ST_map (st_setting (k := 3) hl (by decide) hc h4 hr hq) (KT_KR (KR_PF (PF_r dr))) (fun n o z d' hz e => c0 _ _ _ (cs _ _ 0 _ (by decide) s0 (cs _ _ 1 _ (by decide) s1 (cs _ _ 2 _ (by decide) s2 (ch _ _ 3 _ _ (by decide) hz s3 e))))) (fun n o z d' hz e => rs _ _ 3 _ _ (by decide) hz (EV_bk (k := 400) ?_) e)
                rw [bk_147_0]
                simp (decide := true) only [r0 n o (4 + 0) (by decide) s0, r0 n o (4 + 1) (by decide) s1, r0 n o (4 + 2) (by decide) s2, r1 n o (4 + 3) (by decide) s3, ev_bi, ↓reduceIte]
                rfl
              · by_cases s4 : tk_is b len p (1 + (4 + 4))
                · refine ST_map (st_setting (k := 4) hl (by decide) hc h4 hr hq) (KT_KR (KR_PF (PF_r dr))) (fun n o z d' hz e => c0 _ _ _ (cs _ _ 0 _ (by decide) s0 (cs _ _ 1 _ (by decide) s1 (cs _ _ 2 _ (by decide) s2 (cs _ _ 3 _ (by decide) s3 (ch _ _ 4 _ _ (by decide) hz s4 e)))))) (fun n o z d' hz e => rs _ _ 4 _ _ (by decide) hz (EV_bk (k := 400) ?_) e)
                  rw [bk_147_0]
                  simp (decide := true) only [r0 n o (4 + 0) (by decide) s0, r0 n o (4 + 1) (by decide) s1, r0 n o (4 + 2) (by decide) s2, r0 n o (4 + 3) (by decide) s3, r1 n o (4 + 4) (by decide) s4, ev_bi, ↓reduceIte]
                  rfl
                · by_cases s5 : tk_is b len p (1 + (4 + 5))
                  · refine ST_map (st_setting (k := 5) hl (by decide) hc h4 hr hq) (KT_KR (KR_PF (PF_r dr))) (fun n o z d' hz e => c0 _ _ _ (cs _ _ 0 _ (by decide) s0 (cs _ _ 1 _ (by decide) s1 (cs _ _ 2 _ (by decide) s2 (cs _ _ 3 _ (by decide) s3 (cs _ _ 4 _ (by decide) s4 (ch _ _ 5 _ _ (by decide) hz s5 e))))))) (fun n o z d' hz e => rs _ _ 5 _ _ (by decide) hz (EV_bk (k := 400) ?_) e)
                    rw [bk_147_0]
                    simp (decide := true) only [r0 n o (4 + 0) (by decide) s0, r0 n o (4 + 1) (by decide) s1, r0 n o (4 + 2) (by decide) s2, r0 n o (4 + 3) (by decide) s3, r0 n o (4 + 4) (by decide) s4, r1 n o (4 + 5) (by decide) s5, ev_bi, ↓reduceIte]
                    rfl
                  · by_cases s6 : tk_is b len p (1 + (4 + 6))
                    · refine ST_map (st_setting (k := 6) hl (by decide) hc h4 hr hq) (KT_KR (KR_PF (PF_r dr))) (fun n o z d' hz e => c0 _ _ _ (cs _ _ 0 _ (by decide) s0 (cs _ _ 1 _ (by decide) s1 (cs _ _ 2 _ (by decide) s2 (cs _ _ 3 _ (by decide) s3 (cs _ _ 4 _ (by decide) s4 (cs _ _ 5 _ (by decide) s5 (ch _ _ 6 _ _ (by decide) hz s6 e)))))))) (fun n o z d' hz e => rs _ _ 6 _ _ (by decide) hz (EV_bk (k := 400) ?_) e)
                      rw [bk_147_0]
                      simp (decide := true) only [r0 n o (4 + 0) (by decide) s0, r0 n o (4 + 1) (by decide) s1, r0 n o (4 + 2) (by decide) s2, r0 n o (4 + 3) (by decide) s3, r0 n o (4 + 4) (by decide) s4, r0 n o (4 + 5) (by decide) s5, r1 n o (4 + 6) (by decide) s6, ev_bi, ↓reduceIte]
                      rfl
                    · intro n o m u
                      refine .inr ⟨ev_u3 (ev_u3 dc 28 0 5 1) 28 0 6 (dc 29 0 4), ev_u3 (ev_u3 dr 44 0 10 1) 44 0 11 (dr 44 0 6), ?_, ?_, KS_KC (KC_t KC_28 KC_28), KT_t (KT_44 (by decide) (by decide)) (KT_44 (by decide) (by decide)), PE_x (x := 1) (by decide) (by rw [u3x (by decide), u3s]) (by rw [u3s, h4]) (by rw [u3x (by decide), u3s]) (by rw [u3s, hr.2.2.1.1])⟩
                      · exact c0 _ _ _ (cs _ _ 0 _ (by decide) s0 (cs _ _ 1 _ (by decide) s1 (cs _ _ 2 _ (by decide) s2 (cs _ _ 3 _ (by decide) s3 (cs _ _ 4 _ (by decide) s4 (cs _ _ 5 _ (by decide) s5 (cs _ _ 6 _ (by decide) s6 (cf _ _ _ _ (.inl rfl) (ec_fail hl)))))))))
                      · refine rf _ _ _ _ (.inl rfl) (EV_bk (k := 400) ?_) (em_fails hr.2.2.2.1)
                        rw [bk_147_0]
                        simp (decide := true) only [r0 m u (4 + 0) (by decide) s0, r0 m u (4 + 1) (by decide) s1, r0 m u (4 + 2) (by decide) s2, r0 m u (4 + 3) (by decide) s3, r0 m u (4 + 4) (by decide) s4, r0 m u (4 + 5) (by decide) s5, r0 m u (4 + 6) (by decide) s6, ev_bi, ↓reduceIte]
