/-! THE LAW'S METHODS, 26: a Memory and the builder of its text -/
theorem LV_r {e e' : Nat → Nat → Nat → Int32} {i : Nat} {t w u : Nat → Int32} (h : LV e i t w u) (hf : ∀ r x p, r ≤ 206 → i ≤ x → x < i + 45 → e' r x p = e r x p) : LV e' i t w u := fun r j p T K ha => by
  obtain ⟨a1, a2, a3, a4⟩ := LA_bd ha
  rw [hf r j p a4 a1 a2]
  exact h r j p T K ha
theorem naz (a : Nat) : a + 0 = a := (Nat.add_zero a).trans (Eq.refl a)
/-- the Memory at i says t and w; the builder at j holds L -/
def MA (w : Nat) (e : Nat → Nat → Nat → Int32) (q : Nat → Nat → Nat → Nat) (i j : Nat) (L : List Int32) (t v : Nat → Int32) : Prop :=
  LQ q i ∧ j < i ∧ i + 45 ≤ w ∧ LV e i t v (fun _ => 0) ∧ ∃ h cap, SB j w e q h cap L ∧ 0 < cap
theorem SB_e {i w : Nat} {e e' : Nat → Nat → Nat → Int32} {q : Nat → Nat → Nat → Nat} {h cap : Nat} {L : List Int32} (hs : SB i w e q h cap L) (hf : ∀ r x p, r = 213 ∨ r = 214 ∨ r = 199 → e' r x p = e r x p) : SB i w e' q h cap L := by
  obtain ⟨s1, s2, s3, s4, s5, s6, s7, s8, s9⟩ := hs
  exact ⟨s1, s2, s3, by rw [hf _ _ _ (.inl rfl), s4], by rw [hf _ _ _ (.inl rfl), s5], by rw [hf _ _ _ (.inr (.inr rfl)), s6], s7, s8, fun k hk => by rw [hf _ _ _ (.inr (.inl rfl)), s9 k hk]⟩
section MAS
variable {w i j : Nat} {lk : Nat → Nat → Nat → Bool} {d e : Nat → Nat → Nat → Int32} {tt : Nat → Nat} {q : Nat → Nat → Nat → Nat} {L : List Int32} {t v : Nat → Int32}
theorem MA_bf {w' : Nat} {e' : Nat → Nat → Nat → Int32} {q' : Nat → Nat → Nat → Nat} {h cap : Nat} {L' : List Int32} (hA : MA w e q i j L t v) (hf : BF j w e q w' e' q') (hs : SB j w' e' q' h cap L') (hc : 0 < cap) : MA w' e' q' i j L' t v := by
  obtain ⟨a1, a2, a3, a4, -⟩ := hA
  exact ⟨LQ_q a1 fun r x p h1 h2 => hf.2.2 r x p (by omega) (by omega), a2, by have := hf.1; omega, LV_r a4 fun r x p hr h1 h2 => hf.2.1 r x p (by omega) (by omega) (by omega), h, cap, hs, hc⟩
/-- what neither the Memory nor the builder is changes -/
theorem MA_e {e' : Nat → Nat → Nat → Int32} (hA : MA w e q i j L t v) (hf : ∀ r x p, ¬ r = 208 → e' r x p = e r x p) : MA w e' q i j L t v := by
  obtain ⟨a1, a2, a3, a4, h, cap, hs, hc⟩ := hA
  refine ⟨a1, a2, a3, fun r x p T K ha => ?_, h, cap, SB_e hs fun r x p hr => hf r x p (by omega), hc⟩
  obtain ⟨b1, b2, b3, b4⟩ := LA_bd ha
  rw [hf r x p (by omega)]
  exact a4 r x p T K ha
/-- the Memory changes -/
theorem MA_v {e' : Nat → Nat → Nat → Int32} {t' v' : Nat → Int32} (hA : MA w e q i j L t v) (hf : LF e e' i) (hV : LV e' i t' v' (fun _ => 0)) : MA w e' q i j L t' v' := by
  obtain ⟨a1, a2, a3, a4, h, cap, hs, hc⟩ := hA
  exact ⟨a1, a2, a3, hV, h, cap, SB_e hs fun r x p hr => hf r x p (by omega), hc⟩
theorem MA_c {v' : Nat → Int32} (hA : MA w e q i j L t v) (hv : v' = v) : MA w e q i j L t v' := by
  rw [hv]
  exact hA
theorem ma_str {k : Nat} (hA : MA w e q i j L t v) (hm : L.length + ev_sl k ≤ 600) : ∃ w' t' e' q', EV (226, 0, [ev_R 213 j, ev_R 100 k], [], 0, 0) (384, lk, d, w, tt, e, q) = some (.inl (some (ev_R 213 j)), (384, lk, d, w', t', e', q')) ∧ BF j w e q w' e' q' ∧ MA w' e' q' i j (L ++ sbl k) t v := by
  obtain ⟨a1, a2, a3, a4, h, cap, hs, hc⟩ := id hA
  obtain ⟨w', t', e', q', h', c', x1, x2, x3, x4⟩ := sb_str (lk := lk) (d := d) (t := tt) hs hc hm
  exact ⟨w', t', e', q', x1, x2, MA_bf hA x2 x3 x4⟩
theorem ma_chr {x : Int32} (hx : x = 32 ∨ x = 59) (hA : MA w e q i j L t v) (hm : L.length + 1 ≤ 600) : ∃ w' t' e' q', EV (240, 0, [ev_R 213 j, ev_I x], [], 0, 0) (384, lk, d, w, tt, e, q) = some (.inl (some (ev_R 213 j)), (384, lk, d, w', t', e', q')) ∧ BF j w e q w' e' q' ∧ MA w' e' q' i j (L ++ [x]) t v := by
  obtain ⟨a1, a2, a3, a4, h, cap, hs, hc⟩ := id hA
  obtain ⟨w', t', e', q', h', c', x1, x2, x3, x4⟩ := sb_chr (lk := lk) (d := d) (t := tt) hx hs hc hm
  exact ⟨w', t', e', q', x1, x2, MA_bf hA x2 x3 x4⟩
theorem ma_num {y : Nat} (hy : y < 100) (hA : MA w e q i j L t v) (hm : L.length + 2 ≤ 600) : ∃ w' t' e' q', EV (236, 0, [ev_R 213 j, ev_I (Int32.ofNat y)], [], 0, 0) (384, lk, d, w, tt, e, q) = some (.inl (some (ev_R 213 j)), (384, lk, d, w', t', e', q')) ∧ BF j w e q w' e' q' ∧ MA w' e' q' i j (L ++ dg y) t v := by
  obtain ⟨a1, a2, a3, a4, h, cap, hs, hc⟩ := id hA
  obtain ⟨w', t', e', q', h', c', x1, x2, x3, x4⟩ := sb_num (lk := lk) (d := d) (t := tt) hy hs hc hm
  exact ⟨w', t', e', q', x1, x2, MA_bf hA x2 x3 x4⟩
end MAS
