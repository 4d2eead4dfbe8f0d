/-! THE LAW'S METHODS, 1: the law's Memory and the program's -/
variable {σ : Int32}
theorem QR_w {w w' u : Nat → Int32} {C : Nat} (h : QR w u C) (h40 : C ≤ 40) (hw : ∀ k, k < 615 → w' k = w k) : QR w' u C := fun b hb => by
  obtain ⟨l, hs, hl⟩ := h b hb
  refine ⟨l, SF.same hs (fun q hq => ?_) (fun q hq z => hw _ (by omega)), hl⟩
  unfold ms_wt
  rw [hw _ (by omega), hw _ (by omega), hw _ (by omega)]
theorem HO_w {w w' : Nat → Int32} {C K : Nat} (h : HO w C K) (hw : ∀ k, k < 615 → w' k = w k) : HO w' C K := by
  obtain ⟨h1, h2, h3, h4⟩ := h
  refine ⟨by rw [hw _ (by omega), h1], by rw [h2]; exact ms_cm_c (fun q hq => by rw [hw _ (by omega)]), h3, fun q hq hs => ?_⟩
  rw [hw _ (by omega)] at hs
  obtain ⟨p, a1, a2⟩ := h4 q hq hs
  exact ⟨p, a1, by rw [hw _ (by omega), a2]⟩
theorem LV_w {e : Nat → Nat → Nat → Int32} {i : Nat} {t w w' u : Nat → Int32} (h : LV e i t w u) (hw : ∀ k, k < 615 → w' k = w k) : LV e i t w' u := h.congr fun r j p T K ha => by
  match T, ha with
  | 0, ha =>
    show w' K = w K
    refine hw K ?_
    unfold LA at ha
    rcases ha with ha | ha | ha | ⟨x, ha⟩ | ⟨b, ha⟩ | ⟨b, ha⟩ | ⟨b, ha⟩ | ⟨b, ha⟩ <;> omega
  | 1, _ => rfl
  | _ + 2, _ => rfl
theorem LM_w {e : Nat → Nat → Nat → Int32} {i B R C T τ : Nat} {t w w' : Nat → Int32} (h : LM e i t w B R C T τ) (hw : ∀ k, k < 615 → w' k = w k) : LM e i t w' B R C T τ := by
  obtain ⟨u, K, h1, hI, hC, hr, hk, hBL, h4, hHE⟩ := h
  refine ⟨u, K, LV_w h1 hw, SI_w hI hw, by rw [hw _ (by omega), hC], QR_w hr hI.1.2.1 hw, HO_w hk hw, fun c hc => by rw [hw _ (by omega)]; exact hBL c hc, by rw [hw _ (by omega)]; exact h4, fun b hb => by rw [hw _ (by omega)]; exact hHE b hb⟩
theorem LM_T {e : Nat → Nat → Nat → Int32} {i B R C T T' τ : Nat} {t w : Nat → Int32} (h : LM e i t w B R C T τ) (hI : SI w B R C T' τ) : LM e i t w B R C T' τ := by
  obtain ⟨u, K, h1, -, h2⟩ := h
  exact ⟨u, K, h1, hI, h2⟩
theorem LM_e {e e' : Nat → Nat → Nat → Int32} {i B R C T τ : Nat} {t w : Nat → Int32} (h : LM e i t w B R C T τ) (hf : ∀ r x p, r ≤ 206 → i ≤ x → x < i + 45 → e' r x p = e r x p) : LM e' i t w B R C T τ := by
  obtain ⟨u, K, h1, h2⟩ := h
  refine ⟨u, K, fun r x p T K ha => ?_, h2⟩
  obtain ⟨a1, a2, a3, a4⟩ := LA_bd ha
  rw [hf r x p a4 a1 a2]
  exact h1 _ _ _ _ _ ha
theorem GB_GF {d d' : Nat → Nat → Nat → Int32} {B R C T τ : Nat} (h : GB d B R C T τ) (hf : GF d d') : GB d' B R C T τ := by
  obtain ⟨h0, g1, g2, g3, hτ, g4⟩ := h
  have hf0 := hf
  obtain ⟨a1, a2, ⟨a3, a4, a5, a6, a7⟩, a8, ⟨a9, a10, a11, a12, a13, a14⟩, a15, a16⟩ := hf
  refine ⟨GI_GF h0 hf0, by rw [a9]; exact g1, ?_, by rw [a2 24 (by decide) (by decide)]; exact g3, hτ, GS_w (GS_d g4 (fun r hr => a1 r 1 hr (by decide) (by decide))) a10⟩
  rw [a9]
  exact CL_d g2 (a2 24 (by decide) (by decide)) (a2 25 (by decide) (by decide)) (a2 26 (by decide) (by decide))
/-- nothing is lost where no row is -/
def BZ (w : Nat → Int32) (B R : Nat) : Prop := ∀ b r, b < 4 → r < 16 → ¬ (b < B ∧ r < R) → w (55 + 5 * (16 * b + r) + 1) = 0
/-- debts are what came less what was refreshed -/
def WH (w : Nat → Int32) (B : Nat) : Prop := ms_sum w B = w 11 - w 12
theorem ms_sum_c {w w' : Nat → Int32} : ∀ {B}, (∀ b, b < B → w' (19 + 9 * b + 0) = w (19 + 9 * b + 0)) → ms_sum w' B = ms_sum w B
  | 0, _ => rfl
  | B + 1, h => by
    show ms_sum w' B + w' (19 + 9 * B + 0) = ms_sum w B + w (19 + 9 * B + 0)
    rw [ms_sum_c (fun b hb => h b (by omega)), h B (by omega)]
/-- a request waits to come, waits, or was served -/
def S3 (w : Nat → Int32) (C : Nat) : Prop := ∀ q, q < C → w (375 + 6 * q + 3) = 0 ∨ w (375 + 6 * q + 3) = 1 ∨ w (375 + 6 * q + 3) = 2
/-- the program, the reference and the law's Memory at i agree -/
def LR (σ : Int32) (d e : Nat → Nat → Nat → Int32) (i B R C τ : Nat) : Prop := (R ≤ 6 ∧ C ≤ 39 ∧ d 44 0 4 = 0 ∧ d 104 0 0 = σ) ∧ ∃ T, GB d B R C T τ ∧ LM e i (d 45 0) (d 46 0) B R C T τ ∧ BZ (d 46 0) B R ∧ WH (d 46 0) B ∧ S3 (d 46 0) C
theorem LR_GF {d d' e : Nat → Nat → Nat → Int32} {i B R C τ : Nat} (h : LR σ d e i B R C τ) (hf : GF d d') : LR σ d' e i B R C τ := by
  obtain ⟨h0, T, h1, h2, h3, h4, h5⟩ := h
  have e45 : d' 45 0 = d 45 0 := hf.2.2.2.2.1.1
  have e46 : ∀ j, j < 615 → d' 46 0 j = d 46 0 j := hf.2.2.2.2.1.2.1
  have b4 : B ≤ 4 := h1.2.1.1.2.2.2.1
  refine ⟨⟨h0.1, h0.2.1, by rw [hf.2.2.2.1 4 (by decide)]; exact h0.2.2.1, by rw [hf.2.2.2.2.2.2]; exact h0.2.2.2⟩, T, GB_GF h1 hf, by rw [e45]; exact LM_w h2 e46, fun b r hb hr z => by rw [e46 _ (by omega)]; exact h3 b r hb hr z, ?_, fun q hq => by have := h0.2.1; rw [e46 _ (by omega)]; exact h5 q hq⟩
  unfold WH
  rw [ms_sum_c (fun b hb => e46 _ (by omega)), e46 _ (by omega), e46 _ (by omega)]
  exact h4
theorem LR_e {d e e' : Nat → Nat → Nat → Int32} {i B R C τ : Nat} (h : LR σ d e i B R C τ) (hf : ∀ r x p, r ≤ 206 → i ≤ x → x < i + 45 → e' r x p = e r x p) : LR σ d e' i B R C τ := by
  obtain ⟨h0, T, h1, h2, h3⟩ := h
  exact ⟨h0, T, h1, LM_e h2 hf, h3⟩
theorem LQ_q {q q' : Nat → Nat → Nat → Nat} {i : Nat} (h : LQ q i) (hf : ∀ r x p, i ≤ x → x < i + 45 → q' r x p = q r x p) : LQ q' i := by
  obtain ⟨⟨h9, h10, h11, h12, h13, h14, h15, h16⟩, hb⟩ := h
  refine ⟨⟨?_, ?_, ?_, ?_, ?_, ?_, ?_, ?_⟩, fun b hb4 => ?_⟩
  · rw [hf _ _ _ (by omega) (by omega), h9]
  · rw [hf _ _ _ (by omega) (by omega), h10]
  · rw [hf _ _ _ (by omega) (by omega), h11]
  · rw [hf _ _ _ (by omega) (by omega), h12]
  · rw [hf _ _ _ (by omega) (by omega), h13]
  · rw [hf _ _ _ (by omega) (by omega), h14]
  · rw [hf _ _ _ (by omega) (by omega), h15]
  · rw [hf _ _ _ (by omega) (by omega), h16]
  · have h := hb b hb4
    rw [hf _ _ _ (by omega) (by omega), hf _ _ _ (by omega) (by omega), hf _ _ _ (by omega) (by omega), hf _ _ _ (by omega) (by omega), hf _ _ _ (by omega) (by omega), hf _ _ _ (by omega) (by omega), hf _ _ _ (by omega) (by omega), hf _ _ _ (by omega) (by omega), hf _ _ _ (by omega) (by omega)]
    exact h
/-- what only looks and makes arrays -/
def KF (wn : Nat) (d e : Nat → Nat → Nat → Int32) (q : Nat → Nat → Nat → Nat) (wn' : Nat) (d' e' : Nat → Nat → Nat → Int32) (q' : Nat → Nat → Nat → Nat) : Prop :=
  wn ≤ wn' ∧ GF d d' ∧ (∀ r x p, x < wn → e' r x p = e r x p) ∧ ∀ r x p, x < wn → q' r x p = q r x p
section KFS
variable {wn wn' wn'' : Nat} {d d' d'' e e' e'' : Nat → Nat → Nat → Int32} {q q' q'' : Nat → Nat → Nat → Nat} {i B R C τ : Nat}
theorem KF.rf : KF wn d e q wn d e q := ⟨Nat.le_refl _, GF_r d, fun _ _ _ _ => rfl, fun _ _ _ _ => rfl⟩
theorem KF.tr (h : KF wn d e q wn' d' e' q') (h' : KF wn' d' e' q' wn'' d'' e'' q'') : KF wn d e q wn'' d'' e'' q'' :=
  ⟨Nat.le_trans h.1 h'.1, GF_t h.2.1 h'.2.1, fun r x p hx => (h'.2.2.1 r x p (Nat.lt_of_lt_of_le hx h.1)).trans (h.2.2.1 r x p hx), fun r x p hx => (h'.2.2.2 r x p (Nat.lt_of_lt_of_le hx h.1)).trans (h.2.2.2 r x p hx)⟩
theorem KF.look (h : GF d d') : KF wn d e q wn d' e q := ⟨Nat.le_refl _, h, fun _ _ _ _ => rfl, fun _ _ _ _ => rfl⟩
theorem KF.LR (h : KF wn d e q wn' d' e' q') (hi : i + 45 ≤ wn) (hR : LR σ d e i B R C τ) : LR σ d' e' i B R C τ := LR_e (LR_GF hR h.2.1) fun r x p _ h1 h2 => h.2.2.1 r x p (by omega)
theorem KF.LQ (h : KF wn d e q wn' d' e' q') (hi : i + 45 ≤ wn) (hQ : LQ q i) : LQ q' i := LQ_q hQ fun r x p h1 h2 => h.2.2.2 r x p (by omega)
end KFS
/-- a call that looks, as the law makes it -/
theorem gl_call {a b : ev_F} {lk : Nat → Nat → Nat → Bool} {d : Nat → Nat → Nat → Int32} {v : Int32} (o : ev_W) (h : OPL a b lk d v) : ∃ d2, GF d d2 ∧ ∀ K : Int32 → ev_M → ev_T, ev_bi (EV a (384, lk, d, o)) ev_no (fun z μ1 => ev_gh (EV b μ1) μ1 (fun ν => K z ν)) = K v (384, lk, d2, o) := by
  obtain ⟨d1, d2, gf, cr, e1, e2⟩ := h 384 o (Nat.le_refl _)
  refine ⟨d2, gf, fun K => ?_⟩
  rw [e1]
  simp only [ev_bi]
  rw [e2, gh_CR cr]
