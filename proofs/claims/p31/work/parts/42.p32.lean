/-! THE LAW'S METHODS, 32: after the text is read all agree -/
theorem cmz_no {w : Nat → Int32} : ∀ C, (∀ q, q < C → w (375 + 6 * q + 3) = 0) → ms_cm w C = 0
  | 0, _ => rfl
  | C + 1, h => by
    unfold ms_cm
    rw [if_pos (h C (by omega)), cmz_no C (fun q hq => h q (by omega))]
theorem sum_none {w : Nat → Int32} : ∀ B, (∀ b, b < B → w (19 + 9 * b + 0) = 0) → ms_sum w B = 0
  | 0, _ => rfl
  | B + 1, h => by
    unfold ms_sum
    rw [sum_none B (fun b hb => h b (by omega)), h B (by omega)]
    rfl
theorem pw_zero {s a : Nat → Int32} {C k : Nat} (h1 : 8 ≤ k) (h2 : k < 375) (h9 : k ≠ 9) (hn : k ≠ 18 ∧ ¬ (k = 25 ∨ k = 26 ∨ k = 34 ∨ k = 35 ∨ k = 43 ∨ k = 44 ∨ k = 52 ∨ k = 53)) : pw s a C k = 0 := by
  rw [pw_m h1 h2 h9 C]
  unfold pb
  rw [if_neg (by omega), if_neg hn.1, if_neg hn.2]
theorem lr_start {σ : Int32} {dz e : Nat → Nat → Nat → Int32} {i B R C : Nat} {t s a : Nat → Int32} (hG : GI dz) (h4 : dz 44 0 4 = 0) (h104 : dz 104 0 0 = σ) (h45 : ∀ k, k < 132 → dz 45 0 k = t k) (h46 : ∀ k, k < 615 → dz 46 0 k = pw s a C k) (hV : LV e i t (pw s a C) (fun _ => 0)) (t0 : t 0 = Int32.ofNat B) (t1 : t 1 = Int32.ofNat R) (hB : B ≤ 4) (hR : R ≤ 6) (hC : C ≤ 9) (s4 : ms_rg (s 4) 0 20) : LR σ dz e i B R C 0 := by
  obtain ⟨B', R', C', T', τ', hG'⟩ := GI_GB hG
  obtain ⟨-, hT, -⟩ := id hG'
  obtain ⟨⟨u0, u1, v1, v4, r1, r16⟩, -⟩ := id hT
  have eB : B' = B := (ni_eq (by omega) (by omega)).mp ((u0.symm.trans (h45 0 (by omega))).trans t0)
  have eR : R' = R := (ni_eq (by omega) (by omega)).mp ((u1.symm.trans (h45 1 (by omega))).trans t1)
  subst eB eR
  have w9 : dz 46 0 9 = Int32.ofNat C := (h46 9 (by omega)).trans (pw_9 C)
  have w8 : dz 46 0 8 = Int32.ofNat 0 := (h46 8 (by omega)).trans (pw_zero (by omega) (by omega) (by omega) (by omega))
  have w3 : ∀ q, q < C → dz 46 0 (375 + 6 * q + 3) = 0 := fun q hq => (h46 _ (by omega)).trans (pw_q C hq).2.2
  obtain ⟨T, hGB⟩ := GB_of hG hT w9 (by omega) w8 (by omega)
  refine ⟨⟨hR, by omega, h4, h104⟩, T, hGB, ⟨fun _ => 0, 0, hV.congr ?_, hGB.2.2.2.2.2.2, w9, ?_, ?_, ?_, ?_⟩, ?_, ?_, fun q hq => .inl (w3 q hq)⟩
  · intro r j p T K ha
    have key : (T = 0 ∧ K < 615) ∨ (T = 1 ∧ K < 132) ∨ 2 ≤ T := by
      unfold LA at ha
      rcases ha with ha | ha | ha | ⟨x, ha⟩ | ⟨b, ha⟩ | ⟨b, ha⟩ | ⟨b, ha⟩ | ⟨b, ha⟩ <;> omega
    rcases key with ⟨rfl, hk⟩ | ⟨rfl, hk⟩ | hk
    · exact h46 K hk
    · exact h45 K hk
    · match T, hk with
      | T + 2, _ => rfl
  · intro b hb
    refine ⟨[], fun q hq z => ?_, rfl, by decide, fun j q hj => ?_⟩
    · have := z.1
      rw [w3 q hq] at this
      exact absurd this (by decide)
    · simp at hj
  · refine ⟨(h46 10 (by omega)).trans (pw_zero (by omega) (by omega) (by omega) (by omega)), (cmz_no C w3).symm, by omega, fun q hq z => absurd (w3 q hq) z⟩
  · intro c hc
    exact .inl ((h46 _ (by omega)).trans (pw_zero (by omega) (by omega) (by omega) (by omega)))
  · refine ⟨?_, fun b hb => ?_⟩
    · rw [h46 4 (by omega), pw_lo (by omega)]
      exact s4
    · rw [h46 _ (by omega), pw_zero (by omega) (by omega) (by omega) (by omega)]
      unfold ms_rg
      decide
  · intro b r hb hr hn
    exact (h46 _ (by omega)).trans (pw_zero (by omega) (by omega) (by omega) (by omega))
  · unfold WH
    rw [sum_none _ (fun b hb => (h46 _ (by omega)).trans (pw_zero (by omega) (by omega) (by omega) (by omega))), h46 11 (by omega), h46 12 (by omega), pw_zero (by omega) (by omega) (by omega) (by omega), pw_zero (by omega) (by omega) (by omega) (by omega)]
    rfl
