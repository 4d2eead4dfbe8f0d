/-! THE LAW'S OWN MEMORY, 11: a plan -/
section LM11
variable {n : Nat} {lk : Nat → Nat → Nat → Bool} {d : Nat → Nat → Nat → Int32} {wn : Nat} {tt : Nat → Nat} {e : Nat → Nat → Nat → Int32} {q : Nat → Nat → Nat → Nat} {i : Nat} {t w u : Nat → Int32} {P : ev_O × ev_M → Prop} {wk wi : Nat → Nat}
theorem wgb_WG {B S b : Nat} (h4 : B ≤ 4) (hb : b ≤ B) : WG w (ms_wgb t w wk wi B S b) := WG_f7 (WG_f6 (WG_r w) h4) (by omega)
theorem lm_grants (hq : LQ q i) {B S C : Nat} (hB : t 0 = Int32.ofNat B) (h4 : B ≤ 4) (hS : w 0 = Int32.ofNat S) (hS4 : S ≤ 4) (h40 : C ≤ 40) (hQ : ∀ b, b < B → wk b < 16 ∧ wi b < 7 ∧ ms_small (ms_rem t w b (wk b)) ∧ ms_small (w (19 + 9 * b + 0))) (hu : ∀ b, b < B → u (5 * b + 1) = Int32.ofNat (wk b)) (hr : QR w u C) (h : LV e i t (ms_fs 6 w (fun b => Int32.ofNat (wi b)) B) u)
    (kk : ∀ e' u', LV e' i t (ms_wg t w wk wi B S) u' → LF e e' i → UQ u u' → (∀ b, b < B → u' (5 * b + 1) = Int32.ofNat (wk b) ∧ u' (5 * b + 2) = ms_tox t w wk wi C B S b ∧ u' (5 * b + 3) = ms_en (ms_svx t w wk wi C B S b)) → P (.inl none, (n, lk, d, wn, tt, e', q))) :
    ER (271, 302, [ev_R 200 i, ev_I (Int32.ofNat 0)], [], 0, 0) (n, lk, d, wn, tt, e, q) P := by
  have loop : ∀ j b, b + j = B → ∀ e' u', LV e' i t (ms_wgb t w wk wi B S b) u' → LF e e' i → UQ u u' → (∀ b', b' < B → u' (5 * b' + 1) = Int32.ofNat (wk b')) → (∀ b', b' < b → u' (5 * b' + 2) = ms_tox t w wk wi C B S b' ∧ u' (5 * b' + 3) = ms_en (ms_svx t w wk wi C B S b')) → ER (271, 302, [ev_R 200 i, ev_I (Int32.ofNat b)], [], 0, 0) (n, lk, d, wn, tt, e', q) P := by
    intro j
    induction j with
    | zero =>
      intro b hb e' u' g1 g2 g3 g4 g5
      have hbB : b = B := by omega
      subst hbB
      have c0 : e' 200 i 0 = Int32.ofNat b := (g1 _ _ _ _ _ (la_f (k := 0) (by omega))).trans hB
      refine ER_bk ?_
      rw [bk_271_302, c0, if_neg (fun z => Int32.lt_irrefl z)]
      refine ER_bk ?_
      rw [bk_271_523]
      exact ⟨_, rfl, kk e' u' g1 g2 g3 (fun b' hb' => ⟨g4 b' hb', g5 b' hb'⟩)⟩
    | succ j ih =>
      intro b hb e' u' g1 g2 g3 g4 g5
      have hG : WG w (ms_wgb t w wk wi B S b) := wgb_WG h4 (by omega)
      have c0 : e' 200 i 0 = Int32.ofNat B := (g1 _ _ _ _ _ (la_f (k := 0) (by omega))).trans hB
      have k16 := hq.1.2.2.2.2.2.2.2
      obtain ⟨k7, -⟩ := hq.2 b (by omega)
      have hp : PK t w (ms_wgb t w wk wi B S b) u' wk wi B := ⟨hG, fun b' hb' => ⟨(hQ b' hb').1, (hQ b' hb').2.1, by
        unfold ms_wgb
        rw [ms_fs_n (fun x hx => by omega), ms_fs_at (by omega) hb'], g4 b' hb', (hQ b' hb').2.2⟩⟩
      refine ER_bk ?_
      rw [bk_271_302, c0, if_pos ((ni_lt (by omega) (by omega)).mpr (by omega))]
      simp only [k16, ev_lq_s, ni_in (n := b) (N := 4) (by omega) (by omega), ni_c (n := b) (by omega), cond_true, k7]
      refine lm_before hq hB h4 hp g1 (by omega) ?_
      refine lm_grant hq h4 hS hS4 h40 hp (hr.hi (fun k _ => rfl) g3) g1 (by omega) fun e1 u1 a1 a2 a3 a4 a5 a6 a7 x y => ?_
      refine ER_bk ?_
      rw [bk_271_517, ni_1]
      refine ih (b + 1) (by omega) e1 u1 a1 (g2.tr a2) (g3.tr a3) (fun b' hb' => ?_) (fun b' hb' => ?_)
      · by_cases c : b' = b
        · subst c; rw [a5]; exact g4 b' hb'
        · rw [a4 b' c 1 (by omega)]; exact g4 b' hb'
      · by_cases c : b' = b
        · subst c; exact ⟨a6, a7⟩
        · rw [a4 b' c 2 (by omega), a4 b' c 3 (by omega)]; exact g5 b' (by omega)
  have h0 : ms_wgb t w wk wi B S 0 = ms_fs 6 w (fun b => Int32.ofNat (wi b)) B := ms_fs0
  exact loop B 0 (by omega) e u (by rw [h0]; exact h) (LF.rf e i) (UQ.rf u) hu (fun b hb => by omega)
theorem pre_hi {C B : Nat} (h4 : B ≤ 4) {k : Nat} (hk : 375 ≤ k) : ms_pre t w C B k = ms_asked w C k := ms_pre_n h4 (by omega) (by omega) (fun b hb => by omega)
theorem lm_plan (hq : LQ q i) {B R C T τ S K : Nat} (hT : TC t B R) (hI : SI w B R C T τ) (hC : w 9 = Int32.ofNat C) (hS : w 0 = Int32.ofNat S) (hS4 : S ≤ 4) (hr : QR w u C) (hk : HO w C K) (h : LV e i t w u) :
    ∃ e' u' K', EV (271, 0, [ev_R 200 i], [], 0, 0) (n, lk, d, wn, tt, e, q) = some (.inl none, (n, lk, d, wn, tt, e', q)) ∧ LV e' i t (ms_wg t (ms_pre t w C B) (ms_wk t (ms_pre t w C B) R) (ms_wi t (ms_pre t w C B) C R) B S) u' ∧ LF e e' i ∧
      QR (ms_pre t w C B) u' C ∧ HO (ms_pre t w C B) C K' ∧ ∀ b, b < B → u' (5 * b + 2) = ms_to t (ms_pre t w C B) C R B S b ∧ u' (5 * b + 3) = ms_en (ms_sv t (ms_pre t w C B) C R B S b) := by
  have hI0 := hI
  obtain ⟨⟨c1, c2, c3⟩, c4, ⟨c5, c5'⟩, ⟨-, r1, r2, c7, -⟩, -⟩ := hI
  obtain ⟨⟨t0, t1, b1, b4, r1', r16⟩, -, ⟨t3, t3'⟩, -⟩ := id hT
  have ht3 : t 3 ≠ 0 := fun z => by
    rw [z] at t3
    exact absurd t3 (by decide)
  have hprg := ms_pre_rg b4 hI0 (t := t)
  have hd : ∀ b, b < 4 → ms_small (ms_pre t w C B (19 + 9 * b + 0)) := fun b hb => by
    obtain ⟨x, y⟩ := hprg b hb
    exact ⟨by omega, by omega⟩
  have lo : ∀ k, k < 10 → ms_pre t w C B k = w k := fun k hk => ms_pre_lo (by omega) (by omega) (by omega)
  suffices key : ER (271, 0, [ev_R 200 i], [], 0, 0) (n, lk, d, wn, tt, e, q) (fun r => ∃ e' u' K', r = (.inl none, (n, lk, d, wn, tt, e', q)) ∧ LV e' i t (ms_wg t (ms_pre t w C B) (ms_wk t (ms_pre t w C B) R) (ms_wi t (ms_pre t w C B) C R) B S) u' ∧ LF e e' i ∧
      QR (ms_pre t w C B) u' C ∧ HO (ms_pre t w C B) C K' ∧ ∀ b, b < B → u' (5 * b + 2) = ms_to t (ms_pre t w C B) C R B S b ∧ u' (5 * b + 3) = ms_en (ms_sv t (ms_pre t w C B) C R B S b)) by
    obtain ⟨r, h1, e', u', K', h2, h3⟩ := key
    exact ⟨e', u', K', by rw [h1, h2], h3⟩
  refine lm_asked hq c2 hC (fun p hp => ?_) h hr hk fun e1 u1 K1 a1 a2 a3 a4 => ?_
  · obtain ⟨⟨b, hb, hw⟩, -⟩ := c4 p hp
    exact ⟨b, by omega, hw⟩
  refine lm_debts hq t0 b4 ht3 ((ms_asked_lo w (by omega) (by omega) C).trans c5) c5' a1 fun e2 b1' b2' => ?_
  refine lm_trades hq t0 b4 ?_ b1' fun e3 d1 d2 => ?_
  · rw [ms_debts_lo (by omega) (by omega), ms_asked_lo w (by omega) (by omega) C]
    exact c7
  have hpre : (if ms_debts t (ms_asked w C) B 7 = 1 then ms_trades (ms_debts t (ms_asked w C) B) B B else ms_debts t (ms_asked w C) B) = ms_pre t w C B := rfl
  rw [hpre] at d1
  have hr3 : QR (ms_pre t w C B) u1 C := a3.hi (fun k hk => pre_hi b4 hk) (UQ.rf u1)
  have hk3 : HO (ms_pre t w C B) C K1 := a4.hi (fun k hk => pre_hi b4 hk) (ms_pre_n b4 (by omega) (by omega) (fun b hb => by omega))
  refine lm_wishes hq t0 b4 t1 r1' r16 c2 (by rw [lo 2 (by omega)]; exact r2) hd hr3 d1 fun e4 u4 f1 f2 f3 f4 => ?_
  refine lm_grants hq t0 b4 (by rw [lo 0 (by omega)]; exact hS) hS4 c2 (fun b hb => ?_) f4 (hr3.hi (fun k _ => rfl) f3) f1 fun e5 u5 g1 g2 g3 g4 => ?_
  · have hwk : ms_wk t (ms_pre t w C B) R b < 16 := by
      unfold ms_wk
      rcases ms_weak_le t (ms_pre t w C B) b R with z | z <;> omega
    have hwi : ms_wi t (ms_pre t w C B) C R b < 7 := by
      unfold ms_wi ms_wish
      repeat' split
      all_goals omega
    obtain ⟨x, y⟩ := SI_rem hT hI0 (b := b) (r := ms_wk t (ms_pre t w C B) R b) (by omega) hwk
    exact ⟨hwk, hwi, ⟨by omega, by omega⟩, hd b (by omega)⟩
  · exact ⟨e5, u5, K1, rfl, g1, a2.tr (b2'.tr (d2.tr (f2.tr g2))), hr3.hi (fun k _ => rfl) (f3.tr g3), hk3, fun b hb => (g4 b hb).2⟩
end LM11
