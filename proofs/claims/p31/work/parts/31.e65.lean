/-! THE PROGRAM AGAINST THE REFERENCE, 51: the reference goes on to the next token -/
/-- the reference holds the token at p -/
def RT (d : Nat → Nat → Nat → Int32) (b : Nat → Int32) (len p : Nat) : Prop := d 44 0 6 = Int32.ofNat (tk_s b len p) ∧ d 44 0 7 = Int32.ofNat (tk_e b len p) ∧ d 44 0 8 = tk_k b len p ∧ (tk_k b len p = 2 → d 44 0 9 = tk_v b (tk_s b len p) (tk_e b len p - tk_s b len p))
section EC40
variable {n : Nat} {lk : Nat → Nat → Nat → Bool} {d : Nat → Nat → Nat → Int32} {o : ev_W}
theorem em_adv (hl : LK lk) {b : Nat → Int32} {len p : Nat} (hp : p ≤ len) (ht : TB d b len) (h7 : d 44 0 7 = Int32.ofNat p) : ∃ d', EV (137, 0, [ev_R 44 0], [], 0, 0) (n, lk, d, o) = some (.inl none, (n, lk, d', o)) ∧ PF 44 6 9 d d' ∧ RT d' b len p := by
  have loop : ∀ j k, k + j = len → p ≤ k → tk_s b len k = tk_s b len p → ∀ d : Nat → Nat → Nat → Int32, TB d b len → d 44 0 7 = Int32.ofNat k → ∃ d', EV (137, 0, [ev_R 44 0], [], 0, 0) (n, lk, d, o) = some (.inl none, (n, lk, d', o)) ∧ PF 44 6 9 d d' ∧ RT d' b len p := by
    intro j
    induction j with
    | zero =>
      intro k hk hpk hs d ht h7
      have h600 := ht.1
      have hk' : tk_s b len p = k := by
        rw [← hs]
        exact tk_ge (by omega)
      have hlt : ¬ tk_s b len p < len := by omega
      have he : tk_e b len p = k := by
        unfold tk_e
        rw [if_neg hlt, hk']
      have hk0 : tk_k b len p = 0 := by
        unfold tk_k
        rw [if_neg hlt]
      have fr : PF 44 6 9 d (ev_u3 (ev_u3 d 44 0 6 (Int32.ofNat k)) 44 0 9 0) := PF_t (PF_u (by decide) (by decide)) (PF_u (by decide) (by decide))
      refine ⟨ev_u3 (ev_u3 (ev_u3 d 44 0 6 (Int32.ofNat k)) 44 0 9 0) 44 0 8 0, EV_bk (k := 400) ?_, PF_t fr (PF_u (by decide) (by decide)), ?_, ?_, ?_, fun v => ?_⟩
      · rw [bk_137_0, h7, em_byteEnd ht (by omega) (by omega)]
        simp only [ev_bi]
        rw [if_neg (show ¬ (-1 : Int32) = 32 by decide), h7, em_byteEnd ht (by omega) (by omega)]
        simp only []
        rw [if_neg (show ¬ (-1 : Int32) = 10 by decide), h7, u3x (by decide), u3x (by decide), h7, em_byteEnd (TB_PF ht fr) (by omega) (by omega)]
        simp only []
        rw [if_pos trivial]
      · rw [u3x (by decide), u3x (by decide), u3s, hk']
      · rw [u3x (by decide), u3x (by decide), u3x (by decide), h7, he]
      · rw [u3s, hk0]
      · rw [hk0] at v
        exact absurd v (by decide)
    | succ j ih =>
      intro k hk hpk hs d ht h7
      have h600 := ht.1
      obtain ⟨c5, c1, c2, c3, cn, -⟩ := by_c (ht.2.2 k (by omega)).2
      have step : ∀ d', EV (137, 0, [ev_R 44 0], [], 0, 0) (n, lk, ev_u3 d 44 0 7 (Int32.ofNat (k + 1)), o) = some (.inl none, (n, lk, d', o)) → tk_c (b k) = 5 → EV (137, 0, [ev_R 44 0], [], 0, 0) (n, lk, d, o) = some (.inl none, (n, lk, d', o)) := by
        intro d' e z
        refine EV_bk (k := 400) ?_
        rw [bk_137_0, h7, em_byte hl ht (by omega)]
        simp only [ev_bi]
        by_cases y : b k &&& 255 = 32
        · rw [if_pos y, h7, ni_1]
          exact e
        · rw [if_neg y, h7, em_byte hl ht (by omega)]
          simp only []
          rw [if_pos ((c5.mpr z).resolve_left y), h7, ni_1]
          exact e
      by_cases z : tk_c (b k) = 5
      · have fr : PF 44 6 9 d (ev_u3 d 44 0 7 (Int32.ofNat (k + 1))) := PF_u (by decide) (by decide)
        obtain ⟨d', e, f, g⟩ := ih (k + 1) (by omega) (by omega) (by rw [← hs]; exact (tk_gs (by omega) (show tk_q 5 (b k) = true from decide_eq_true z)).symm) _ (TB_PF ht fr) u3s
        exact ⟨d', step d' e z, PF_t fr f, g⟩
      · have hk' : tk_s b len p = k := by
          rw [← hs]
          exact tk_gn (by omega) (show ¬ tk_q 5 (b k) = true from fun v => z (of_decide_eq_true v))
        have hlt : tk_s b len p < len := by omega
        have zz : tk_z b len p = tk_c (b k) := by unfold tk_z; rw [hk']
        have hk0 : tk_k b len p = tk_l (tk_c (b k)) (tk_e b len p - k) := by
          unfold tk_k
          rw [if_pos hlt, zz, hk']
        have he : tk_e b len p = if tk_c (b k) = 1 ∨ tk_c (b k) = 2 then tk_g (tk_q (tk_c (b k))) b len (k + 1) else k + 1 := by
          unfold tk_e
          rw [if_pos hlt, zz, hk']
        have fr : PF 44 6 9 d (ev_u3 (ev_u3 d 44 0 6 (Int32.ofNat k)) 44 0 9 0) := PF_t (PF_u (by decide) (by decide)) (PF_u (by decide) (by decide))
        have ht2 := TB_PF ht fr
        have g6 : ev_u3 (ev_u3 d 44 0 6 (Int32.ofNat k)) 44 0 9 0 44 0 6 = Int32.ofNat k := by rw [u3x (by decide), u3s]
        have g7 : ev_u3 (ev_u3 d 44 0 6 (Int32.ofNat k)) 44 0 9 0 44 0 7 = Int32.ofNat k := by rw [u3x (by decide), u3x (by decide), h7]
        have g9 : ev_u3 (ev_u3 d 44 0 6 (Int32.ofNat k)) 44 0 9 0 44 0 9 = 0 := u3s
        have hd : ∀ d1, d1 = ev_u3 (ev_u3 d 44 0 6 (Int32.ofNat k)) 44 0 9 0 → ∀ t, (if tk_c (b k) = 1 then EV (137, 85, [ev_R 44 0, ev_I (b k &&& 255)], [], 0, 0) (n, lk, d1, o) else if tk_c (b k) = 2 then EV (137, 153, [ev_R 44 0, ev_I (b k &&& 255)], [], 0, 0) (n, lk, d1, o) else some (.inl none, (n, lk, ev_u3 (ev_u3 d1 44 0 7 (Int32.ofNat (k + 1))) 44 0 8 (tk_c (b k)), o))) = some t → EV (137, 0, [ev_R 44 0], [], 0, 0) (n, lk, d, o) = some t := by
          intro d1 e1 t e
          refine EV_bk (k := 400) ?_
          rw [bk_137_0, h7, em_byte hl ht (by omega)]
          simp only [ev_bi]
          rw [if_neg (fun v => z (c5.mp (.inl v))), h7, em_byte hl ht (by omega)]
          simp only []
          rw [if_neg (fun v => z (c5.mp (.inr v))), h7, g7, em_byte hl ht2 (by omega)]
          simp only []
          rw [if_neg cn, em_129]
          simp only []
          have g7' : d1 44 0 7 = Int32.ofNat k := by rw [e1]; exact g7
          rw [← e1]
          by_cases y1 : tk_c (b k) = 1
          · rw [if_pos (c1.mpr y1), if_neg (by decide)]
            rw [if_pos y1] at e
            exact e
          · rw [if_neg (fun v => y1 (c1.mp v)), if_pos rfl, em_129]
            simp only []
            rw [if_neg y1] at e
            by_cases y2 : tk_c (b k) = 2
            · rw [if_pos (c2.mpr y2), if_neg (by decide)]
              rw [if_pos y2] at e
              exact e
            · rw [if_neg (fun v => y2 (c2.mp v)), if_pos rfl, g7', ni_1]
              rw [if_neg y2] at e
              by_cases y3 : tk_c (b k) = 3
              · rw [if_pos (c3.mpr y3)]
                rw [y3] at e
                exact e
              · rw [if_neg (fun v => y3 (c3.mp v))]
                have y4 : tk_c (b k) = 4 := by
                  unfold tk_c at *
                  by_cases a1 : ¬ b k < 97 ∧ b k ≤ 122
                  · rw [if_pos a1] at y1
                    exact absurd rfl y1
                  · rw [if_neg a1] at *
                    by_cases a2 : ¬ b k < 48 ∧ b k ≤ 57
                    · rw [if_pos a2] at y2
                      exact absurd rfl y2
                    · rw [if_neg a2] at *
                      by_cases a3 : b k = 59
                      · rw [if_pos a3] at y3
                        exact absurd rfl y3
                      · rw [if_neg a3] at *
                        by_cases a4 : b k = 32 ∨ b k = 10
                        · rw [if_pos a4] at z
                          exact absurd rfl z
                        · rw [if_neg a4]
                rw [y4] at e
                exact e
        generalize hg : ev_u3 (ev_u3 d 44 0 6 (Int32.ofNat k)) 44 0 9 0 = d1 at *
        by_cases y1 : tk_c (b k) = 1
        · rw [if_pos (.inl y1), y1] at he
          obtain ⟨d', e, f, f8, f6, f7⟩ := em_letters (n := n) (lk := lk) (o := o) hl (y := b k &&& 255) (b := b) (len := len) (s := k) (len - k) k (by omega) (Nat.le_refl _) d1 ht2 g6 g7
          have hr : tk_g (tk_q 1) b len k = tk_g (tk_q 1) b len (k + 1) := tk_gs (by omega) (show tk_q 1 (b k) = true from decide_eq_true y1)
          rw [hr, ← he] at f8 f7
          rw [y1] at hk0
          refine ⟨d', hd d1 rfl _ (by rw [if_pos y1]; exact e), PF_t fr f, by rw [f6, hk'], f7, by rw [f8, hk0], fun v => ?_⟩
          rw [hk0] at v
          unfold tk_l at v
          rw [if_pos rfl] at v
          split at v <;> exact absurd v (by decide)
        · by_cases y2 : tk_c (b k) = 2
          · rw [if_pos (.inr y2), y2] at he
            obtain ⟨d', e, f, f8, f6, f7, f9⟩ := em_digits (n := n) (lk := lk) (o := o) hl (y := b k &&& 255) (b := b) (len := len) (s := k) (len - k) k (by omega) (Nat.le_refl _) d1 ht2 g6 g7 (fun _ => by rw [g9, Nat.sub_self]; rfl)
            have hr : tk_g (tk_q 2) b len k = tk_g (tk_q 2) b len (k + 1) := tk_gs (by omega) (show tk_q 2 (b k) = true from decide_eq_true y2)
            rw [hr, ← he] at f8 f7 f9
            rw [y2] at hk0
            refine ⟨d', hd d1 rfl _ (by rw [if_neg y1, if_pos y2]; exact e), PF_t fr f, by rw [f6, hk'], f7, by rw [f8, hk0], fun v => ?_⟩
            rw [hk']
            refine f9 ?_
            rw [hk0] at v
            unfold tk_l at v
            rw [if_neg (show ¬ (2 : Int32) = 1 by decide), if_pos rfl] at v
            by_cases x : tk_e b len p - k ≤ 3
            · exact x
            · rw [if_neg x] at v
              exact absurd v (by decide)
          · rw [if_neg (fun v => v.elim y1 y2)] at he
            have hk1 : tk_k b len p = tk_c (b k) := by
              rw [hk0]
              unfold tk_l
              rw [if_neg y1, if_neg y2]
            refine ⟨ev_u3 (ev_u3 d1 44 0 7 (Int32.ofNat (k + 1))) 44 0 8 (tk_c (b k)), hd d1 rfl _ (by rw [if_neg y1, if_neg y2]), PF_t fr (PF_t (PF_u (by decide) (by decide)) (PF_u (by decide) (by decide))), by rw [u3x (by decide), u3x (by decide), g6, hk'], by rw [u3x (by decide), u3s, he], by rw [u3s, hk1], fun v => ?_⟩
            rw [hk1] at v
            exact absurd v y2
  exact loop (len - p) p (by omega) (Nat.le_refl _) rfl d ht h7
end EC40
