/-! SOUNDNESS, 5: cells -/
def sd_cq (ci : Nat) (q : vw_C) : Bool := Nat.beq q.2.2 (ev_nf ci) && (List.range q.2.2).all fun k => decide ((q.2.1 k).1 = q.1) && (match ev_rf ci k with
  | true => (q.2.1 k).2.2.2 && (parseFieldDescriptor (q.2.1 k).2.2.1).any (fun t => t.isReference)
  | false => !(q.2.1 k).2.2.2 && decide ((q.2.1 k).2.2.1 = (match ev_ft ci k with | 2 => "Z" | _ => "I")))
theorem sd_cq_ok : ∀ ci, ci < 12 → (vwCl[ci]?).all (sd_cq ci) = true := by decide +kernel
theorem sd_cw_ok : ∀ ci, ci < 12 → (vwCl[ci]?).all (fun q => (u_ws q.1 q.2.1 q.2.2).all goodWord) = true := by decide +kernel
theorem sd_ci {ci : Nat} {q : vw_C} (h : vwCl[ci]? = some q) : ci < 12 := (List.getElem?_eq_some_iff.mp h).1
theorem sd_lw {ci : Nat} {q : vw_C} (h : vwCl[ci]? = some q) : ∀ w ∈ u_ws q.1 q.2.1 q.2.2, w ∈ lw_tbl := by
  match ci, h with
  | 0, h => cases h; exact inX0
  | 1, h => cases h; exact inX1
  | 2, h => cases h; exact inX2
  | 3, h => cases h; exact inX3
  | 4, h => cases h; exact inX4
  | 5, h => cases h; exact inX5
  | 6, h => cases h; exact inX6
  | 7, h => cases h; exact inX7
  | 8, h => cases h; exact inX8
  | 9, h => cases h; exact inX9
  | 10, h => cases h; exact inX10
  | 11, h => cases h; exact inX11
  | k + 12, h => exact absurd (sd_ci h) (by omega)
theorem sd_lg {ci : Nat} {q : vw_C} (h : vwCl[ci]? = some q) : ∀ w ∈ u_ws q.1 q.2.1 q.2.2, w ∈ sd_gw := fun w hw => by
  have h1 := sd_cw_ok ci (sd_ci h)
  rw [h] at h1
  exact List.mem_filter.mpr ⟨sd_lw h w hw, List.all_eq_true.mp h1 w hw⟩
theorem sd_nm {ci : Nat} {q : vw_C} (h : vwCl[ci]? = some q) : ∀ a, a < q.2.2 → ∀ b, b < q.2.2 → a ≠ b → (q.2.1 a).2.1 ≠ (q.2.1 b).2.1 := by
  match ci, h with
  | 0, h => cases h; exact nmX0
  | 1, h => cases h; exact nmX1
  | 2, h => cases h; exact nmX2
  | 3, h => cases h; exact nmX3
  | 4, h => cases h; exact nmX4
  | 5, h => cases h; exact nmX5
  | 6, h => cases h; exact nmX6
  | 7, h => cases h; exact nmX7
  | 8, h => cases h; exact nmX8
  | 9, h => cases h; exact nmX9
  | 10, h => cases h; exact nmX10
  | 11, h => cases h; exact nmX11
  | k + 12, h => exact absurd (sd_ci h) (by omega)
theorem sd_tyo {ci : Nat} {q : vw_C} (h : vwCl[ci]? = some q) : ∃ ty : Nat → FieldType, ∀ k, k < q.2.2 → parseFieldDescriptor (q.2.1 k).2.2.1 = some (ty k) := by
  match ci, h with
  | 0, h => cases h; exact ⟨_, tyX0_ok⟩
  | 1, h => cases h; exact ⟨_, tyX1_ok⟩
  | 2, h => cases h; exact ⟨_, tyX2_ok⟩
  | 3, h => cases h; exact ⟨_, tyX3_ok⟩
  | 4, h => cases h; exact ⟨_, tyX4_ok⟩
  | 5, h => cases h; exact ⟨_, tyX5_ok⟩
  | 6, h => cases h; exact ⟨_, tyX6_ok⟩
  | 7, h => cases h; exact ⟨_, tyX7_ok⟩
  | 8, h => cases h; exact ⟨_, tyX8_ok⟩
  | 9, h => cases h; exact ⟨_, tyX9_ok⟩
  | 10, h => cases h; exact ⟨_, tyX10_ok⟩
  | 11, h => cases h; exact ⟨_, tyX11_ok⟩
  | k + 12, h => exact absurd (sd_ci h) (by omega)
/-- what is told of a field -/
theorem sd_fl {ci : Nat} {q : vw_C} (h : vwCl[ci]? = some q) : q.2.2 = ev_nf ci ∧ ∀ k, k < q.2.2 → (q.2.1 k).1 = q.1 ∧
    ((ev_rf ci k = true ∧ (q.2.1 k).2.2.2 = true ∧ ∃ t, parseFieldDescriptor (q.2.1 k).2.2.1 = some t ∧ t.isReference = true) ∨ (ev_rf ci k = false ∧ (q.2.1 k).2.2.2 = false ∧ (q.2.1 k).2.2.1 = (match ev_ft ci k with | 2 => "Z" | _ => "I"))) := by
  have h1 := sd_cq_ok ci (sd_ci h)
  rw [h] at h1
  have h1 : sd_cq ci q = true := h1
  simp only [sd_cq, Bool.and_eq_true, List.all_eq_true, List.mem_range, decide_eq_true_eq] at h1
  refine ⟨Nat.eq_of_beq_eq_true h1.1, fun k hk => ?_⟩
  obtain ⟨a, b⟩ := h1.2 k hk
  refine ⟨a, ?_⟩
  split at b
  · rename_i hr
    simp only [Bool.and_eq_true] at b
    cases hp : parseFieldDescriptor (q.2.1 k).2.2.1 with
    | none => rw [hp] at b; exact absurd b.2 (by simp)
    | some t => rw [hp] at b; exact Or.inl ⟨hr, b.1, t, rfl, by simpa using b.2⟩
  · rename_i hr
    simp only [Bool.and_eq_true, Bool.not_eq_true', decide_eq_true_eq] at b
    exact Or.inr ⟨hr, b.1, b.2⟩
theorem sd_kn62 {r : Nat} (h : (ev_kn r).1 < 6) : r < 62 := by
  cases hq : Nat.ble r 61 with
  | true => exact Nat.lt_succ_of_le (Nat.le_of_ble_eq_true hq)
  | false =>
    exfalso
    unfold ev_kn at h
    rw [hq] at h
    simp only [cond_false] at h
    cases h1 : Nat.beq r 101 <;> cases h2 : Nat.beq r 102 <;> cases h3 : Nat.beq r 103 <;> simp [h1, h2, h3] at h
theorem sd_kn104 {r : Nat} (h : (ev_kn r).1 ≠ 6) : r < 104 := by
  by_cases h6 : (ev_kn r).1 < 6
  · have := sd_kn62 h6; omega
  · cases hq : Nat.ble r 61 with
    | true => have := Nat.le_of_ble_eq_true hq; omega
    | false =>
      unfold ev_kn at h
      rw [hq] at h
      simp only [cond_false] at h
      cases h1 : Nat.beq r 101 with
      | true => have := Nat.eq_of_beq_eq_true h1; omega
      | false =>
        cases h2 : Nat.beq r 102 with
        | true => have := Nat.eq_of_beq_eq_true h2; omega
        | false =>
          cases h3 : Nat.beq r 103 with
          | true => have := Nat.eq_of_beq_eq_true h3; omega
          | false => rw [h1, h2, h3] at h; exact absurd rfl h
theorem sd_kn789 {r k : Nat} : ((ev_kn r) = (7, k) → r = 101) ∧ ((ev_kn r) = (8, k) → r = 102) ∧ ((ev_kn r) = (9, k) → r = 103) := by
  cases hq : Nat.ble r 61 with
  | true =>
    have h0 : ∀ r, r < 62 → (ev_kn r).1 < 6 := by decide +kernel
    have h1 := h0 r (Nat.lt_succ_of_le (Nat.le_of_ble_eq_true hq))
    refine ⟨fun h => ?_, fun h => ?_, fun h => ?_⟩ <;> (rw [h] at h1; exact absurd h1 (by simp))
  | false =>
    unfold ev_kn
    rw [hq]
    simp only [cond_false]
    cases h1 : Nat.beq r 101 with
    | true => have := Nat.eq_of_beq_eq_true h1; simp [this]
    | false =>
      cases h2 : Nat.beq r 102 with
      | true => have := Nat.eq_of_beq_eq_true h2; simp [this]
      | false =>
        cases h3 : Nat.beq r 103 with
        | true => have := Nat.eq_of_beq_eq_true h3; simp [this]
        | false => simp
theorem sd_u3_off {d : Nat → Nat → Nat → Int32} {r0 i0 k0 r i : Nat} {v : Int32} (k : Nat) (h : ¬ (r = r0 ∧ i = i0)) : ev_u3 d r0 i0 k0 v r i k = d r i k := by
  unfold ev_u3
  by_cases h1 : r = r0
  · rw [if_pos h1]
    unfold ev_u2
    rw [if_neg (fun q => h ⟨h1, q⟩), h1]
  · rw [if_neg h1]
theorem sd_u3_on {d : Nat → Nat → Nat → Int32} {r i k0 : Nat} {v : Int32} (k : Nat) : ev_u3 d r i k0 v r i k = if k = k0 then v else d r i k := by
  unfold ev_u3 ev_u2 ev_u1
  rw [if_pos rfl, if_pos rfl]
theorem sd_w3_off {d : Nat → Nat → Nat → Int32} {r0 i0 r i : Nat} {f : Nat → Int32} (k : Nat) (h : ¬ (r = r0 ∧ i = i0)) : ev_w3 d r0 i0 f r i k = d r i k := by
  unfold ev_w3
  by_cases h1 : r = r0
  · rw [if_pos h1]
    unfold ev_w2
    rw [if_neg (fun q => h ⟨h1, q⟩), h1]
  · rw [if_neg h1]
theorem sd_w3_on {d : Nat → Nat → Nat → Int32} {r i : Nat} {f : Nat → Int32} (k : Nat) : ev_w3 d r i f r i k = f k := by
  unfold ev_w3 ev_w2
  rw [if_pos rfl, if_pos rfl]
theorem sd_in_vp {x : Int32} {n : Nat} (h : ev_in x n = true) : vp_in x n := by
  simp only [ev_in, Bool.and_eq_true, Bool.not_eq_true', decide_eq_false_iff_not] at h
  have h2 := Nat.le_of_ble_eq_true h.2
  intro q
  rcases q with q | q
  · exact h.1 q
  · omega
theorem sd_in_lt {x : Int32} {n : Nat} (h : ev_in x n = true) : x.toNatClampNeg < n := by
  simp only [ev_in, Bool.and_eq_true] at h
  exact Nat.le_of_ble_eq_true h.2
theorem sd_al62 {n r i : Nat} (h : sd_gd n r i) (hr : r < 62) : sd_al n r i := h.1 hr
theorem sd_c0 {g : sd_G} {μ : ev_M} {r i a : Nat} {H : Heap} (h : sd_c g μ r i H) (hk : ev_kn r = (0, a)) : ∃ q : vw_C, vwCl[a]? = some q ∧ t_OB (sd_ad g r i) (g.2.1.1 a) q.2.2 (g.2.1.2 a) H (fun k => if ev_rf a k = true then sd_lv g μ r i k else .int (μ.2.2.1 r i k)) := by
  unfold sd_c at h
  rw [hk] at h
  exact h
theorem sd_cn {g : sd_G} {μ : ev_M} {r i t n : Nat} {H : Heap} (h : sd_c g μ r i H) (hk : ev_kn r = (t, n)) (h0 : t ≠ 0) (h5 : t ≠ 5) (h4 : t ≠ 4) : H[sd_ad g r i]? = some (arrV (g.2.2.1 t) n (fun k => .int (μ.2.2.1 r i k))) := by
  unfold sd_c at h
  rw [hk] at h
  match t, h, h0, h5, h4 with
  | 1, h, _, _, _ => exact h
  | 2, h, _, _, _ => exact h
  | 3, h, _, _, _ => exact h
  | k + 6, h, _, _, _ => exact h
theorem sd_cn' {g : sd_G} {μ : ev_M} {r i t n : Nat} {H : Heap} (hk : ev_kn r = (t, n)) (h0 : t ≠ 0) (h5 : t ≠ 5) (h4 : t ≠ 4) (h : H[sd_ad g r i]? = some (arrV (g.2.2.1 t) n (fun k => .int (μ.2.2.1 r i k)))) : sd_c g μ r i H := by
  unfold sd_c
  rw [hk]
  match t, h, h0, h5, h4 with
  | 1, h, _, _, _ => exact h
  | 2, h, _, _, _ => exact h
  | 3, h, _, _, _ => exact h
  | k + 6, h, _, _, _ => exact h
/-- the array's class and type, by its kind -/
theorem sd_arr {g : sd_G} {s : State} (hK : va_K g.2.1 vwCl (sd_ty g) s) : (∀ n z, s.isArrayOf (arrV (g.2.2.1 1) n z) .int) ∧ (∀ n z, s.isArrayOf (arrV (g.2.2.1 2) n z) .byte) ∧ (∀ n z, s.isArrayOf (arrV (g.2.2.1 3) n z) .boolean) ∧ (∀ n z, s.isArrayOf (arrV (g.2.2.1 4) n z) .long) ∧ (∀ n z, s.isArrayOf (arrV (g.2.2.1 5) n z) (.object RX8)) :=
  ⟨(hK.2 0 _ rfl).1, (hK.2 1 _ rfl).1, (hK.2 2 _ rfl).1, (hK.2 3 _ rfl).1, (hK.2 4 _ rfl).1⟩
theorem sd_arrin {x : Int32} {n : Nat} {cA : ClassId} {f : Nat → Value} (h : ev_in x n = true) : ¬ (x < 0 ∨ (arrV cA n f).slots.size ≤ x.toNatClampNeg) := by
  rw [arrV_size]
  exact sd_in_vp h
theorem sd_narR (t : FieldType) (a : Nat) : narrow t (.ref a) = .ref a := by cases t <;> rfl
theorem sd_fitR {t : FieldType} (a : Nat) (h : t.isReference = true) : fits t (.ref a) = true := by
  cases t <;> first | rfl | exact absurd h (by decide)
def sd_wn (own : String) (cp wi ns : Nat) (ref nm ds : String) : Bool := match ns with
  | 0 => sd_at (wi + 133) (.fieldLink own cp ref nm ds)
  | _ => decide (lw_tbl[wi + 133]? = some (.fieldLinkNest own cp ref nm ds "RefreshTrader"))
def sd_k3 (mi pc h a b len : Nat) (x : Int32) (tb : List Nat) : Bool := match h with
  | 0 => sd_is (sd_cc mi) pc (.getfield (tb.getD 0 0)) 3 && (Nat.beq len 3 && (Nat.blt b (ev_nf a) && (vwCl[a]?).all (fun q => sd_wn (sd_y mi).cls (tb.getD 0 0) (tb.getD 1 0) (tb.getD 2 0) q.1 (q.2.1 b).2.1 (q.2.1 b).2.2.1)))
  | 1 => sd_is (sd_cc mi) pc (.putfield (tb.getD 0 0)) 3 && (Nat.beq len 3 && (Nat.blt b (ev_nf a) && ((vwCl[a]?).all (fun q => sd_wn (sd_y mi).cls (tb.getD 0 0) (tb.getD 1 0) (tb.getD 2 0) q.1 (q.2.1 b).2.1 (q.2.1 b).2.2.1) &&
      (!(ev_rf a b) || (Nat.beq (tb.getD 2 0) 0 && (decide ((sd_y mi).name = "<init>") && (vwCl[a]?).all (fun q => decide (q.1 = (sd_y mi).cls))))))))
  | 2 => (match a with
    | 0 => sd_is (sd_cc mi) pc .iaload 1
    | _ => sd_is (sd_cc mi) pc .baload 1) && Nat.beq len 1
  | 3 => sd_is (sd_cc mi) pc .aaload 1 && Nat.beq len 1
  | 4 => sd_is (sd_cc mi) pc .laload 1 && Nat.beq len 1
  | 5 => (match a with
    | 0 => sd_is (sd_cc mi) pc .iastore 1
    | _ => sd_is (sd_cc mi) pc .bastore 1) && Nat.beq len 1
  | 6 => sd_is (sd_cc mi) pc .lastore 1 && Nat.beq len 1
  | 7 => sd_is (sd_cc mi) pc .aastore 1 && Nat.beq len 1
  | 8 => sd_is (sd_cc mi) pc .arraylength 1 && Nat.beq len 1
  | 9 => sd_is (sd_cc mi) pc (.getstatic (tb.getD 0 0)) 3 && (Nat.beq len 3 && (Nat.beq a 102 && (Nat.blt b 3 && sd_wn (sd_y mi).cls (tb.getD 0 0) (tb.getD 1 0) (tb.getD 2 0) "RefreshTrader" (sd_sn b) "[I")))
  | 10 => sd_is (sd_cc mi) pc (.getstatic (tb.getD 0 0)) 3 && (Nat.beq len 3 && (decide (x = 1) && sd_at (tb.getD 1 0 + 133) (.fieldLink (sd_y mi).cls (tb.getD 0 0) "java/lang/String" "COMPACT_STRINGS" "Z")))
  | 11 => Nat.blt a 35 && (decide ((sd_sr.getD a ("", 0, "", 0)).1 = (sd_y mi).cls) && (decide ((sd_sr.getD a ("", 0, "", 0)).2.1 = tb.getD 0 0) && (match b with
    | 0 => sd_is (sd_cc mi) pc (.ldc (tb.getD 0 0)) 2 && Nat.beq len 2
    | _ => sd_is (sd_cc mi) pc (.ldc_w (tb.getD 0 0)) 3 && Nat.beq len 3)))
  | 12 => sd_is (sd_cc mi) pc (.getfield (tb.getD 0 0)) 3 && (Nat.beq len 3 && (match a with
    | 0 => sd_at (tb.getD 1 0 + 133) (.fieldLink (sd_y mi).cls (tb.getD 0 0) "java/lang/String" "value" "[B")
    | _ => sd_at (tb.getD 1 0 + 133) (.fieldLink (sd_y mi).cls (tb.getD 0 0) "java/lang/String" "coder" "B")))
  | 13 => sd_is (sd_cc mi) pc (.getstatic (tb.getD 0 0)) 3 && (Nat.beq len 3 && sd_at (tb.getD 1 0 + 133) (.fieldLink (sd_y mi).cls (tb.getD 0 0) "jdk/internal/util/Preconditions" "SIOOBE_FORMATTER" "Ljava/util/function/BiFunction;"))
  | _ => true
section SD5
variable {p : Program} {l : Launch} {e : Env} {R : Room} {s : State} {m : MethodId} {args : Array Value} {below : List Frame} {meth : Method} {c : Code} {Q : State → Prop} {g : sd_G} {mi : Nat} {res : ev_O} {μz : ev_M} {K : ev_K}
/-- a word of a field, of the class's own or of a nest mate -/
theorem sd_wn_use (hts : ∀ w ∈ sd_gw, w.before args s = true) (hX : sd_X g s s.heap) {own ref nm ds : String} {cp wi ns : Nat} (h : sd_wn own cp wi ns ref nm ds = true) : (ns = 0 ∧ (Cond.fieldLink own cp ref nm ds).before args s = true) ∨ (ns ≠ 0 ∧ (Cond.fieldLinkNest own cp ref nm ds "RefreshTrader").before args s = true) := by
  unfold sd_wn at h
  split at h
  · exact Or.inl ⟨rfl, hts _ (sd_at_in h)⟩
  · rename_i k hk
    refine Or.inr ⟨hk, va_Nw.use rfl (hX.2.1 _ (List.mem_of_getElem? (of_decide_eq_true h)) rfl)⟩
/-- reading a field -/
theorem sd_get (C : sd_cx p l R s m args meth c g mi) {pc b a len : Nat} {tb : List Nat} {x : Int32} (hck : sd_k3 mi pc 0 a b len x tb = true) {q : vw_C} (hq : vwCl[a]? = some q) {V : Nat → Value} {o : Nat} {H : Heap} (hO : t_OB o (g.2.1.1 a) q.2.2 (g.2.1.2 a) H V) {locs : List Loc} {cl sl : Nat} {vl : Array Slot} {vs : List Value}
    (k : W p l e R s m args below meth c H locs cl sl Q (F0 m (pc + len) vl (V b :: vs))) : W p l e R s m args below meth c H locs cl sl Q (F0 m pc vl (.ref o :: vs)) := by
  obtain ⟨hx, hb, hml, hown, hts, hX, -⟩ := C
  simp only [sd_k3, Bool.and_eq_true] at hck
  obtain ⟨hd, hlen, hb2, hw⟩ := hck
  have el := Nat.eq_of_beq_eq_true hlen
  subst el
  rw [hq] at hw
  have hw : sd_wn (sd_y mi).cls (tb.getD 0 0) (tb.getD 1 0) (tb.getD 2 0) q.1 (q.2.1 b).2.1 (q.2.1 b).2.2.1 = true := hw
  have hbn : b < q.2.2 := by rw [(sd_fl hq).1]; exact Nat.le_of_ble_eq_true hb2
  obtain ⟨hS, hfc, kC, hkC, hkind⟩ := hX.1.1 a _ hq
  obtain ⟨cf, kf, fi, f, hi, hsl⟩ := hS b hbn
  rw [((sd_fl hq).2 b hbn).1] at hi
  obtain ⟨cell, q1, q2, q3, q4⟩ := hO
  have hst := (u_facts hfc hkC (u_lays hts (sd_lg hq) hbn) (by rw [((sd_fl hq).2 b hbn).1]; exact hi)).1
  have hsv : cell.slots[f.slot]? = some (V b) := by rw [hsl]; exact q4 b hbn
  rcases sd_wn_use hts hX hw with ⟨-, hl⟩ | ⟨-, hl⟩
  · exact W.getf hx hb hown hl hi hst q1 (by rw [q3]; exact fun h => by cases h) hsv rfl rfl (sd_is_eq hd) k
  · exact va_Wgetf hx hb hown hl hi hst q1 (by rw [q3]; exact fun h => by cases h) hsv rfl rfl (sd_is_eq hd) k
end SD5
