/-! SOUNDNESS, 5: cells -/
def sd_cq (ci : Nat) (q : vw_C) : Bool := Nat.beq q.2.2 (ev_nf ci) && (List.range q.2.2).all fun k => decide ((q.2.1 k).1 = q.1) && (match ev_rf ci k with
  | true => (q.2.1 k).2.2.2 && (parseFieldDescriptor (q.2.1 k).2.2.1).any (fun t => t.isReference)
  | false => !(q.2.1 k).2.2.2 && decide ((q.2.1 k).2.2.1 = (match ev_ft ci k with | 2 => "Z" | _ => "I")))
theorem sd_cq_ok : ∀ ci, ci < 11 → (vwCl[ci]?).all (sd_cq ci) = true := by decide +kernel
theorem sd_cw_ok : ∀ ci, ci < 15 → (vwCl[ci]?).all (fun q => (u_ws q.1 q.2.1 q.2.2).all goodWord) = true := by decide +kernel
theorem sd_ci {ci : Nat} {q : vw_C} (h : vwCl[ci]? = some q) : ci < 15 := (List.getElem?_eq_some_iff.mp h).1
theorem sd_lw {ci : Nat} {q : vw_C} (h : vwCl[ci]? = some q) : ∀ w ∈ u_ws q.1 q.2.1 q.2.2, w ∈ lw_tbl := by
  match ci, h with
  | 0, h => cases h; exact inX0
  | 1, h => cases h; exact inX1
  | 2, h => cases h; exact inX2
  | 3, h => cases h; exact inX3
  | 4, h => cases h; exact inX4
  | 5, h => cases h; exact inX5
  | 6, h => cases h; exact inX6
  | 7, h => cases h; exact inX7
  | 8, h => cases h; exact inX8
  | 9, h => cases h; exact inX9
  | 10, h => cases h; exact inX10
  | 11, h => cases h; exact inX11
  | 12, h => cases h; exact inX12
  | 13, h => cases h; exact inJ0
  | 14, h => cases h; exact inJ4
  | k + 15, h => exact absurd (sd_ci h) (by omega)
theorem sd_lg {ci : Nat} {q : vw_C} (h : vwCl[ci]? = some q) : ∀ w ∈ u_ws q.1 q.2.1 q.2.2, w ∈ sd_gw := fun w hw => by
  have h1 := sd_cw_ok ci (sd_ci h)
  rw [h] at h1
  exact List.mem_filter.mpr ⟨List.mem_append_left _ (sd_lw h w hw), List.all_eq_true.mp h1 w hw⟩
theorem sd_nm {ci : Nat} {q : vw_C} (h : vwCl[ci]? = some q) : ∀ a, a < q.2.2 → ∀ b, b < q.2.2 → a ≠ b → (q.2.1 a).2.1 ≠ (q.2.1 b).2.1 := by
  match ci, h with
  | 0, h => cases h; exact nmX0
  | 1, h => cases h; exact nmX1
  | 2, h => cases h; exact nmX2
  | 3, h => cases h; exact nmX3
  | 4, h => cases h; exact nmX4
  | 5, h => cases h; exact nmX5
  | 6, h => cases h; exact nmX6
  | 7, h => cases h; exact nmX7
  | 8, h => cases h; exact nmX8
  | 9, h => cases h; exact nmX9
  | 10, h => cases h; exact nmX10
  | 11, h => cases h; exact nmX11
  | 12, h => cases h; exact nmX12
  | 13, h => cases h; exact nmJ0
  | 14, h => cases h; exact nmJ4
  | k + 15, h => exact absurd (sd_ci h) (by omega)
theorem sd_tyo {ci : Nat} {q : vw_C} (h : vwCl[ci]? = some q) : ∃ ty : Nat → FieldType, ∀ k, k < q.2.2 → parseFieldDescriptor (q.2.1 k).2.2.1 = some (ty k) := by
  match ci, h with
  | 0, h => cases h; exact ⟨_, tyX0_ok⟩
  | 1, h => cases h; exact ⟨_, tyX1_ok⟩
  | 2, h => cases h; exact ⟨_, tyX2_ok⟩
  | 3, h => cases h; exact ⟨_, tyX3_ok⟩
  | 4, h => cases h; exact ⟨_, tyX4_ok⟩
  | 5, h => cases h; exact ⟨_, tyX5_ok⟩
  | 6, h => cases h; exact ⟨_, tyX6_ok⟩
  | 7, h => cases h; exact ⟨_, tyX7_ok⟩
  | 8, h => cases h; exact ⟨_, tyX8_ok⟩
  | 9, h => cases h; exact ⟨_, tyX9_ok⟩
  | 10, h => cases h; exact ⟨_, tyX10_ok⟩
  | 11, h => cases h; exact ⟨_, tyX11_ok⟩
  | 12, h => cases h; exact ⟨_, tyX12_ok⟩
  | 13, h => cases h; exact ⟨_, tyJ0_ok⟩
  | 14, h => cases h; exact ⟨_, tyJ4_ok⟩
  | k + 15, h => exact absurd (sd_ci h) (by omega)
/-- what is told of a field -/
theorem sd_fl {ci : Nat} {q : vw_C} (h : vwCl[ci]? = some q) (h11 : ci < 11) : q.2.2 = ev_nf ci ∧ ∀ k, k < q.2.2 → (q.2.1 k).1 = q.1 ∧
    ((ev_rf ci k = true ∧ (q.2.1 k).2.2.2 = true ∧ ∃ t, parseFieldDescriptor (q.2.1 k).2.2.1 = some t ∧ t.isReference = true) ∨ (ev_rf ci k = false ∧ (q.2.1 k).2.2.2 = false ∧ (q.2.1 k).2.2.1 = (match ev_ft ci k with | 2 => "Z" | _ => "I"))) := by
  have h1 := sd_cq_ok ci h11
  rw [h] at h1
  have h1 : sd_cq ci q = true := h1
  simp only [sd_cq, Bool.and_eq_true, List.all_eq_true, List.mem_range, decide_eq_true_eq] at h1
  refine ⟨Nat.eq_of_beq_eq_true h1.1, fun k hk => ?_⟩
  obtain ⟨a, b⟩ := h1.2 k hk
  refine ⟨a, ?_⟩
  split at b
  · rename_i hr
    simp only [Bool.and_eq_true] at b
    cases hp : parseFieldDescriptor (q.2.1 k).2.2.1 with
    | none => rw [hp] at b; exact absurd b.2 (by simp)
    | some t => rw [hp] at b; exact Or.inl ⟨hr, b.1, t, rfl, by simpa using b.2⟩
  · rename_i hr
    simp only [Bool.and_eq_true, Bool.not_eq_true', decide_eq_true_eq] at b
    exact Or.inr ⟨hr, b.1, b.2⟩
theorem sd_kn62 {r : Nat} (h : (ev_kn r).1 < 6) : r < 62 := by
  cases hq : Nat.ble r 61 with
  | true => exact Nat.lt_succ_of_le (Nat.le_of_ble_eq_true hq)
  | false =>
    exfalso
    unfold ev_kn at h
    rw [hq] at h
    simp only [cond_false] at h
    cases h1 : Nat.beq r 101 <;> cases h2 : Nat.beq r 102 <;> cases h3 : Nat.beq r 103 <;> simp [h1, h2, h3] at h
theorem sd_kn104 {r : Nat} (h : (ev_kn r).1 ≠ 6) : r < 104 := by
  by_cases h6 : (ev_kn r).1 < 6
  · have := sd_kn62 h6; omega
  · cases hq : Nat.ble r 61 with
    | true => have := Nat.le_of_ble_eq_true hq; omega
    | false =>
      unfold ev_kn at h
      rw [hq] at h
      simp only [cond_false] at h
      cases h1 : Nat.beq r 101 with
      | true => have := Nat.eq_of_beq_eq_true h1; omega
      | false =>
        cases h2 : Nat.beq r 102 with
        | true => have := Nat.eq_of_beq_eq_true h2; omega
        | false =>
          cases h3 : Nat.beq r 103 with
          | true => have := Nat.eq_of_beq_eq_true h3; omega
          | false => rw [h1, h2, h3] at h; exact absurd rfl h
theorem sd_kn789 {r k : Nat} : ((ev_kn r) = (7, k) → r = 101) ∧ ((ev_kn r) = (8, k) → r = 102) ∧ ((ev_kn r) = (9, k) → r = 103) := by
  cases hq : Nat.ble r 61 with
  | true =>
    have h0 : ∀ r, r < 62 → (ev_kn r).1 < 6 := by decide +kernel
    have h1 := h0 r (Nat.lt_succ_of_le (Nat.le_of_ble_eq_true hq))
    refine ⟨fun h => ?_, fun h => ?_, fun h => ?_⟩ <;> (rw [h] at h1; exact absurd h1 (by simp))
  | false =>
    unfold ev_kn
    rw [hq]
    simp only [cond_false]
    cases h1 : Nat.beq r 101 with
    | true => have := Nat.eq_of_beq_eq_true h1; simp [this]
    | false =>
      cases h2 : Nat.beq r 102 with
      | true => have := Nat.eq_of_beq_eq_true h2; simp [this]
      | false =>
        cases h3 : Nat.beq r 103 with
        | true => have := Nat.eq_of_beq_eq_true h3; simp [this]
        | false => simp
theorem sd_u3_off {d : Nat → Nat → Nat → Int32} {r0 i0 k0 r i : Nat} {v : Int32} (k : Nat) (h : ¬ (r = r0 ∧ i = i0)) : ev_u3 d r0 i0 k0 v r i k = d r i k := by
  unfold ev_u3
  by_cases h1 : r = r0
  · rw [if_pos h1]
    unfold ev_u2
    rw [if_neg (fun q => h ⟨h1, q⟩), h1]
  · rw [if_neg h1]
theorem sd_u3_on {d : Nat → Nat → Nat → Int32} {r i k0 : Nat} {v : Int32} (k : Nat) : ev_u3 d r i k0 v r i k = if k = k0 then v else d r i k := by
  unfold ev_u3 ev_u2 ev_u1
  rw [if_pos rfl, if_pos rfl]
theorem sd_w3_off {d : Nat → Nat → Nat → Int32} {r0 i0 r i : Nat} {f : Nat → Int32} (k : Nat) (h : ¬ (r = r0 ∧ i = i0)) : ev_w3 d r0 i0 f r i k = d r i k := by
  unfold ev_w3
  by_cases h1 : r = r0
  · rw [if_pos h1]
    unfold ev_w2
    rw [if_neg (fun q => h ⟨h1, q⟩), h1]
  · rw [if_neg h1]
theorem sd_w3_on {d : Nat → Nat → Nat → Int32} {r i : Nat} {f : Nat → Int32} (k : Nat) : ev_w3 d r i f r i k = f k := by
  unfold ev_w3 ev_w2
  rw [if_pos rfl, if_pos rfl]
theorem sd_in_vp {x : Int32} {n : Nat} (h : ev_in x n = true) : vp_in x n := by
  simp only [ev_in, Bool.and_eq_true, Bool.not_eq_true', decide_eq_false_iff_not] at h
  have h2 := Nat.le_of_ble_eq_true h.2
  intro q
  rcases q with q | q
  · exact h.1 q
  · omega
theorem sd_in_lt {x : Int32} {n : Nat} (h : ev_in x n = true) : x.toNatClampNeg < n := by
  simp only [ev_in, Bool.and_eq_true] at h
  exact Nat.le_of_ble_eq_true h.2
theorem sd_al62 {n : sd_N} {r i : Nat} (h : sd_gd n r i) (hr : r < 62) : sd_al n r i := h.1 hr
theorem sd_c0 {g : sd_G} {μ : ev_M} {r i a : Nat} {H : Heap} (h : sd_c g μ r i H) (hk : ev_kn r = (0, a)) : ∃ q : vw_C, vwCl[a]? = some q ∧ t_OB (sd_ad g r i) (g.2.1.1 a) q.2.2 (g.2.1.2 a) H (fun k => if ev_rf a k = true then sd_lv g μ r i k else .int (μ.2.2.1 r i k)) := by
  unfold sd_c at h
  rw [hk] at h
  exact h
theorem sd_cell {g : sd_G} {μ : ev_M} {r i t n : Nat} {H : Heap} (h : sd_c g μ r i H) (hk : ev_kn r = (t, n)) (h0 : t ≠ 0) (h5 : t ≠ 5) : H[sd_ad g r i]? = some (arrV (g.2.2.1 t) n (fun k => .int (μ.2.2.1 r i k))) := by
  unfold sd_c at h
  rw [hk] at h
  match t, h, h0, h5 with
  | 1, h, _, _ => exact h
  | 2, h, _, _ => exact h
  | 3, h, _, _ => exact h
  | 4, h, _, _ => exact h
  | k + 6, h, _, _ => exact h
theorem sd_cell' {g : sd_G} {μ : ev_M} {r i t n : Nat} {H : Heap} (hk : ev_kn r = (t, n)) (h0 : t ≠ 0) (h5 : t ≠ 5) (h : H[sd_ad g r i]? = some (arrV (g.2.2.1 t) n (fun k => .int (μ.2.2.1 r i k)))) : sd_c g μ r i H := by
  unfold sd_c
  rw [hk]
  match t, h, h0, h5 with
  | 1, h, _, _ => exact h
  | 2, h, _, _ => exact h
  | 3, h, _, _ => exact h
  | 4, h, _, _ => exact h
  | k + 6, h, _, _ => exact h
/-- the array's class and type, by its kind -/
theorem sd_arr {g : sd_G} {s : State} (hK : va_K g.2.1 vwCl (sd_ty g) s) : (∀ n z, s.isArrayOf (arrV (g.2.2.1 1) n z) .int) ∧ (∀ n z, s.isArrayOf (arrV (g.2.2.1 2) n z) .byte) ∧ (∀ n z, s.isArrayOf (arrV (g.2.2.1 3) n z) .boolean) ∧ (∀ n z, s.isArrayOf (arrV (g.2.2.1 4) n z) (.object RX11)) ∧ (∀ n z, s.isArrayOf (arrV (g.2.2.1 5) n z) (.object RX8)) ∧ (∀ n z, s.isArrayOf (arrV (g.2.2.1 6) n z) (.object RJ0)) :=
  ⟨(hK.2 0 _ rfl).1, (hK.2 1 _ rfl).1, (hK.2 2 _ rfl).1, (hK.2 3 _ rfl).1, (hK.2 4 _ rfl).1, (hK.2 5 _ rfl).1⟩
theorem sd_arrin {x : Int32} {n : Nat} {cA : ClassId} {f : Nat → Value} (h : ev_in x n = true) : ¬ (x < 0 ∨ (arrV cA n f).slots.size ≤ x.toNatClampNeg) := by
  rw [arrV_size]
  exact sd_in_vp h
theorem sd_narR (t : FieldType) (a : Nat) : narrow t (.ref a) = .ref a := by cases t <;> rfl
theorem sd_fitR {t : FieldType} (a : Nat) (h : t.isReference = true) : fits t (.ref a) = true := by
  cases t <;> first | rfl | exact absurd h (by decide)
/-- a word that isn't one of the private methods' -/
theorem sd_notux {w : Cond} (h : w ∈ sd_all) (hn : (match w with | .selects _ _ _ => true | _ => false) = false) : w ∈ lw_tbl := by
  rcases List.mem_append.mp h with h | h
  · exact h
  · obtain ⟨y, -, rfl⟩ := List.mem_map.mp h
    cases hn
theorem sd_k11 : ∀ r, r < 44 → (ev_kn r).1 = 0 → (ev_kn r).2 < 11 := by decide +kernel
theorem sd_al11 {n : sd_N} {r i a : Nat} (h : sd_al n r i) (hk : ev_kn r = (0, a)) : a < 11 := by
  have := sd_k11 r (sd_cn_ev h.1).1 (by rw [hk])
  rwa [hk] at this
def sd_wn (own : String) (cp wi ns : Nat) (ref nm ds : String) : Bool := match ns with
  | 0 => sd_at (wi + 70) (.fieldLink own cp ref nm ds)
  | 1 => decide (sd_tt (wi + 70) = some (.fieldLinkNest own cp ref nm ds "RefreshTrader"))
  | _ => decide (sd_tt (wi + 70) = some (.fieldLinkNest own cp ref nm ds "RefreshTraderLaw"))
def sd_k3 (mi pc h a b len : Nat) (x : Int32) (tb : List Nat) : Bool := match h with
  | 0 => sd_is (sd_cc mi) pc (.getfield (tb.getD 0 0)) 3 && (Nat.beq len 3 && (Nat.blt b (ev_nf a) && (vwCl[a]?).all (fun q => sd_wn (sd_y mi).cls (tb.getD 0 0) (tb.getD 1 0) (tb.getD 2 0) q.1 (q.2.1 b).2.1 (q.2.1 b).2.2.1)))
  | 1 => sd_is (sd_cc mi) pc (.putfield (tb.getD 0 0)) 3 && (Nat.beq len 3 && (Nat.blt b (ev_nf a) && ((vwCl[a]?).all (fun q => sd_wn (sd_y mi).cls (tb.getD 0 0) (tb.getD 1 0) (tb.getD 2 0) q.1 (q.2.1 b).2.1 (q.2.1 b).2.2.1) &&
      (!(ev_rf a b) || (Nat.beq (tb.getD 2 0) 0 && (decide ((sd_y mi).name = "<init>") && (vwCl[a]?).all (fun q => decide (q.1 = (sd_y mi).cls))))))))
  | 2 => (match a with
    | 0 => sd_is (sd_cc mi) pc .iaload 1
    | _ => sd_is (sd_cc mi) pc .baload 1) && Nat.beq len 1
  | 3 => sd_is (sd_cc mi) pc .aaload 1 && Nat.beq len 1
  | 5 => (match a with
    | 0 => sd_is (sd_cc mi) pc .iastore 1
    | _ => sd_is (sd_cc mi) pc .bastore 1) && Nat.beq len 1
  | 7 => sd_is (sd_cc mi) pc .aastore 1 && Nat.beq len 1
  | 8 => sd_is (sd_cc mi) pc .arraylength 1 && Nat.beq len 1
  | 9 => sd_is (sd_cc mi) pc (.getstatic (tb.getD 0 0)) 3 && (Nat.beq len 3 && (Nat.beq a 102 && (Nat.blt b 5 && sd_wn (sd_y mi).cls (tb.getD 0 0) (tb.getD 1 0) (tb.getD 2 0) (sd_so b) (sd_sn b) "[I")))
  | 10 => sd_is (sd_cc mi) pc (.getstatic (tb.getD 0 0)) 3 && (Nat.beq len 3 && (decide (x = 1) && sd_at (tb.getD 1 0 + 70) (.fieldLink (sd_y mi).cls (tb.getD 0 0) "java/lang/String" "COMPACT_STRINGS" "Z")))
  | 11 => ev_so a && (decide ((sd_sr.getD a ("", 0, "", 0)).1 = (sd_y mi).cls) && (decide ((sd_sr.getD a ("", 0, "", 0)).2.1 = tb.getD 0 0) && (match b with
    | 0 => sd_is (sd_cc mi) pc (.ldc (tb.getD 0 0)) 2 && Nat.beq len 2
    | _ => sd_is (sd_cc mi) pc (.ldc_w (tb.getD 0 0)) 3 && Nat.beq len 3)))
  | 12 => sd_is (sd_cc mi) pc (.getfield (tb.getD 0 0)) 3 && (Nat.beq len 3 && (match a with
    | 0 => sd_at (tb.getD 1 0 + 70) (.fieldLink (sd_y mi).cls (tb.getD 0 0) "java/lang/String" "value" "[B")
    | _ => sd_at (tb.getD 1 0 + 70) (.fieldLink (sd_y mi).cls (tb.getD 0 0) "java/lang/String" "coder" "B")))
  | 13 => sd_is (sd_cc mi) pc (.getstatic (tb.getD 0 0)) 3 && (Nat.beq len 3 && sd_at (tb.getD 1 0 + 70) (.fieldLink (sd_y mi).cls (tb.getD 0 0) "jdk/internal/util/Preconditions" "SIOOBE_FORMATTER" "Ljava/util/function/BiFunction;"))
  | _ => true
section SD5
variable {p : Program} {l : Launch} {e : Env} {R : Room} {s : State} {m : MethodId} {args : Array Value} {below : List Frame} {meth : Method} {c : Code} {Q : State → Prop} {g : sd_G} {mi : Nat} {res : ev_O} {μz : ev_M} {K : ev_K}
/-- a word of a field, of the class's own or of a nest mate -/
theorem sd_wn_use (hts : ∀ w ∈ sd_gw, w.before args s = true) (hX : sd_X g s s.heap) {own ref nm ds : String} {cp wi ns : Nat} (h : sd_wn own cp wi ns ref nm ds = true) : (ns = 0 ∧ (Cond.fieldLink own cp ref nm ds).before args s = true) ∨ (ns ≠ 0 ∧ ∃ host, (Cond.fieldLinkNest own cp ref nm ds host).before args s = true) := by
  unfold sd_wn at h
  split at h
  · exact Or.inl ⟨rfl, hts _ (sd_at_in h)⟩
  · refine Or.inr ⟨by decide, _, va_Nw.use rfl (hX.2.1 _ (sd_notux (sd_tt_in (of_decide_eq_true h)) rfl) rfl)⟩
  · rename_i k hk _
    exact Or.inr ⟨hk, _, va_Nw.use rfl (hX.2.1 _ (sd_notux (sd_tt_in (of_decide_eq_true h)) rfl) rfl)⟩
/-- reading a field -/
theorem sd_get (C : sd_cx p l R s m args meth c g mi) {pc b a len : Nat} (h11 : a < 11) {tb : List Nat} {x : Int32} (hck : sd_k3 mi pc 0 a b len x tb = true) {q : vw_C} (hq : vwCl[a]? = some q) {V : Nat → Value} {o : Nat} {H : Heap} (hO : t_OB o (g.2.1.1 a) q.2.2 (g.2.1.2 a) H V) {locs : List Loc} {cl sl : Nat} {vl : Array Slot} {vs : List Value}
    (k : W p l e R s m args below meth c H locs cl sl Q (F0 m (pc + len) vl (V b :: vs))) : W p l e R s m args below meth c H locs cl sl Q (F0 m pc vl (.ref o :: vs)) := by
  obtain ⟨hx, hb, hml, hown, hts, hX, -⟩ := C
  simp only [sd_k3, Bool.and_eq_true] at hck
  obtain ⟨hd, hlen, hb2, hw⟩ := hck
  have el := Nat.eq_of_beq_eq_true hlen
  subst el
  rw [hq] at hw
  have hw : sd_wn (sd_y mi).cls (tb.getD 0 0) (tb.getD 1 0) (tb.getD 2 0) q.1 (q.2.1 b).2.1 (q.2.1 b).2.2.1 = true := hw
  have hbn : b < q.2.2 := by rw [(sd_fl hq h11).1]; exact Nat.le_of_ble_eq_true hb2
  obtain ⟨hS, hfc, kC, hkC, hkind⟩ := hX.1.1 a _ hq
  obtain ⟨cf, kf, fi, f, hi, hsl⟩ := hS b hbn
  rw [((sd_fl hq h11).2 b hbn).1] at hi
  obtain ⟨cell, q1, q2, q3, q4⟩ := hO
  have hst := (u_facts hfc hkC (u_lays hts (sd_lg hq) hbn) (by rw [((sd_fl hq h11).2 b hbn).1]; exact hi)).1
  have hsv : cell.slots[f.slot]? = some (V b) := by rw [hsl]; exact q4 b hbn
  rcases sd_wn_use hts hX hw with ⟨-, hl⟩ | ⟨-, _, hl⟩
  · exact W.getf hx hb hown hl hi hst q1 (by rw [q3]; exact fun h => by cases h) hsv rfl rfl (sd_is_eq hd) k
  · exact va_Wgetf hx hb hown hl hi hst q1 (by rw [q3]; exact fun h => by cases h) hsv rfl rfl (sd_is_eq hd) k
end SD5
section SD6
variable {p : Program} {l : Launch} {e : Env} {R : Room} {s : State} {m : MethodId} {args : Array Value} {below : List Frame} {meth : Method} {c : Code} {Q : State → Prop} {g : sd_G} {mi : Nat} {res : ev_O} {μz : ev_M} {K : ev_K}
/-- links of one thing stay as they are -/
theorem sd_R.lks {μ : ev_M} {H : Heap} (h : sd_R g μ H) {r i : Nat} (hr : r < 62) (ha : sd_al (sd_nn μ) r i) : ∀ k, ev_ir r k = true → k < sd_n r → μ.2.1 r i k = true → (ev_tg r k i).1 < 62 ∧ sd_al (sd_nn μ) (ev_tg r k i).1 (ev_tg r k i).2 := fun k a b c => h.2.2.1 r i k hr ha a b c
/-- a number put into a thing -/
theorem sd_R.puti {n : Nat} {lk : Nat → Nat → Nat → Bool} {d : Nat → Nat → Nat → Int32} {o : ev_W} {H H1 : Heap} {r i k : Nat} {v : Int32} (h : sd_R g (n, lk, d, o) H) (hr : r < 62) (ha : sd_al (n, o.1, o.2.1) r i) (hz : H1.size = H.size) (oq : ∀ q : Nat, q ≠ sd_ad g r i → H1[q]? = H[q]?) (hc : sd_c g (n, lk, ev_u3 d r i k v, o) r i H1) : sd_R g (n, lk, ev_u3 d r i k v, o) H1 :=
  h.put hr ha rfl hz oq (fun _ _ _ _ => rfl) (fun _ _ k h => sd_u3_off k h) rfl hc (fun k a b c => h.lks hr ha k a b c)
theorem sd_putI (C : sd_cx p l R s m args meth c g mi) {pc b a len : Nat} {tb : List Nat} {x : Int32} (hck : sd_k3 mi pc 1 a b len x tb = true) {n : Nat} {lk : Nat → Nat → Nat → Bool} {d : Nat → Nat → Nat → Int32} {o : ev_W} {r i : Nat} {v : Int32} {H : Heap} {locs : List Loc} {cl sl : Nat} {vl : Array Slot} {vs : List Value}
    (hkn : ev_kn r = (0, a)) (hrf : ev_rf a b = false) (hok : ev_ok (ev_ft a b) v = true) (hg : sd_gd (n, o.1, o.2.1) r i) (hS : va_S (sd_A g) s.heap H locs) (hR : sd_R g (n, lk, d, o) H)
    (k : ∀ (H1 : Heap) (locs1 : List Loc), va_S (sd_A g) s.heap H1 locs1 → sd_R g (n, lk, ev_u3 d r i b v, o) H1 → W p l e R s m args below meth c H1 locs1 cl sl Q (F0 m (pc + len) vl vs)) : W p l e R s m args below meth c H locs cl sl Q (F0 m pc vl (.int v :: .ref (sd_ad g r i) :: vs)) := by
  obtain ⟨hx, hb, hml, hown, hts, hX, -⟩ := C
  simp only [sd_k3, Bool.and_eq_true] at hck
  obtain ⟨hd, hlen, hb2, hw, -⟩ := hck
  have el := Nat.eq_of_beq_eq_true hlen
  subst el
  have hr : r < 62 := sd_kn62 (by rw [hkn]; show 0 < 6; decide)
  have ha := sd_al62 hg hr
  have h11 := sd_al11 ha hkn
  obtain ⟨q, hq, hO⟩ := sd_c0 (hR.1 r i hr ha) hkn
  rw [hq] at hw
  have hw : sd_wn (sd_y mi).cls (tb.getD 0 0) (tb.getD 1 0) (tb.getD 2 0) q.1 (q.2.1 b).2.1 (q.2.1 b).2.2.1 = true := hw
  have hbn : b < q.2.2 := by rw [(sd_fl hq h11).1]; exact Nat.le_of_ble_eq_true hb2
  obtain ⟨hown2, hfl⟩ := (sd_fl hq h11).2 b hbn
  obtain ⟨hfin, hty⟩ : (q.2.1 b).2.2.2 = false ∧ (q.2.1 b).2.2.1 = (match ev_ft a b with | 2 => "Z" | _ => "I") := by
    rcases hfl with ⟨h1, -⟩ | ⟨-, h2, h3⟩
    · rw [hrf] at h1; cases h1
    · exact ⟨h2, h3⟩
  obtain ⟨ty, hn, hp, hfit⟩ : ∃ ty : FieldType, narrow ty (.int v) = .int v ∧ parseFieldDescriptor (q.2.1 b).2.2.1 = some ty ∧ fits ty (.int v) = true := by
    rw [hty]
    have hft : ev_ft a b = 2 ∨ ev_ft a b = 1 := by
      unfold ev_ft
      cases Nat.beq a 8 && Nat.beq b 1 <;> simp
    rcases hft with q2 | q2
    · rw [q2] at hok ⊢
      have hv : v &&& 1 = v := by simpa [ev_ok] using hok
      have h01 : v = 0 ∨ v = 1 := by
        rw [← hv]
        have := pk_andE v (m := 1) 1 (by decide)
        obtain ⟨j, hj, e⟩ := this
        rw [e]
        have : j = 0 ∨ j = 1 := by omega
        rcases this with rfl | rfl
        · exact Or.inl rfl
        · exact Or.inr rfl
      refine ⟨.boolean, ?_, by decide +kernel, ?_⟩
      · rcases h01 with rfl | rfl <;> rfl
      · rcases h01 with rfl | rfl <;> rfl
    · rw [q2]
      exact ⟨.int, rfl, by decide +kernel, rfl⟩
  obtain ⟨tyf, htyf⟩ := sd_tyo hq
  have hap := va_apart (own := q.1) hts (sd_lg hq) tyf htyf (sd_nm hq) hX.1 hq
  obtain ⟨hSl, hfc, kC, hkC, hkind⟩ := hX.1.1 a _ hq
  obtain ⟨cf, kf, fi, f, hi, hsl⟩ := hSl b hbn
  obtain ⟨cell, q1, q2, q3, q4⟩ := hO
  have hlay := hts _ (sd_lg hq _ (u_in_lay hbn))
  unfold u_lay at hlay
  rw [if_neg (by rw [hfin]; decide)] at hlay
  have hst := (u_facts hfc hkC (u_lays hts (sd_lg hq) hbn) hi).1
  have h6 := u_store hfc hkC hkind hlay hi hp hn hfit
  have hi' := hi
  rw [hown2] at hi'
  have fin : ∀ H' : Heap, H'[sd_ad g r i]? = some (cell.setSlot f.slot (.int v)) → H'.size = H.size → (∀ q, q ≠ sd_ad g r i → H'[q]? = H[q]?) → W p l e R s m args below meth c H' (locs ++ [⟨sd_ad g r i, f.slot⟩]) cl sl Q (F0 m (pc + 3) vl vs) := by
    intro H' e1 e2 e3
    rw [hsl] at e1
    refine k H' _ (hS.put e2 e3 (sd_ad_ge hr)) (hR.puti hr ha e2 e3 ?_)
    unfold sd_c
    rw [hkn]
    refine ⟨q, hq, t_OB.to (V := updV (fun k => if ev_rf a k = true then sd_lv g (n, lk, d, o) r i k else .int (d r i k)) b (.int v)) ⟨_, e1, q2, q3, t_set q4 hap hbn _⟩ (fun j hj => ?_)⟩
    show (if j = b then Value.int v else (if ev_rf a j = true then sd_lv g (n, lk, d, o) r i j else .int (d r i j))) = (if ev_rf a j = true then sd_lv g (n, lk, ev_u3 d r i b v, o) r i j else .int (ev_u3 d r i b v r i j))
    rw [sd_u3_on]
    by_cases e : j = b
    · rw [if_pos e, e, hrf, if_neg (by decide), if_pos rfl]
    · rw [if_neg e, if_neg e]
      rfl
  rcases sd_wn_use hts hX hw with ⟨-, hl⟩ | ⟨-, _, hl⟩
  · exact W.putK hx hb (f := f) ⟨hown, hl, ⟨_, _, _, hi'⟩, hst⟩ (by rw [q2]; exact h6) q1 q3 (by rw [hsl]; exact k2_hasslot (q4 b hbn)) rfl rfl (sd_is_eq hd) fin
  · exact va_WputK hx hb (f := f) hown hl hi' hst (by rw [q2]; exact h6) q1 q3 (by rw [hsl]; exact k2_hasslot (q4 b hbn)) rfl rfl (sd_is_eq hd) fin
theorem sd_lk_off {lk : Nat → Nat → Nat → Bool} {r0 i0 k0 r i : Nat} {v : Bool} (k : Nat) (h : ¬ (r = r0 ∧ i = i0)) : ev_lk lk r0 i0 k0 v r i k = lk r i k := by
  unfold ev_lk
  have : (Nat.beq r r0 && (Nat.beq i i0 && Nat.beq k k0)) = false := by
    cases h1 : Nat.beq r r0 with
    | false => rfl
    | true =>
      cases h2 : Nat.beq i i0 with
      | false => rfl
      | true => exact absurd ⟨Nat.eq_of_beq_eq_true h1, Nat.eq_of_beq_eq_true h2⟩ h
  rw [this]
  rfl
theorem sd_lk_on {lk : Nat → Nat → Nat → Bool} {r i k0 : Nat} {v : Bool} (k : Nat) : ev_lk lk r i k0 v r i k = if k = k0 then v else lk r i k := by
  unfold ev_lk
  by_cases h : k = k0
  · rw [if_pos h, h]
    simp
  · rw [if_neg h]
    have : Nat.beq k k0 = false := by
      cases q : Nat.beq k k0 with
      | false => rfl
      | true => exact absurd (Nat.eq_of_beq_eq_true q) h
    rw [this]
    simp
/-- a reference set in a constructor, or in a row of references -/
theorem sd_R.putr {n : Nat} {lk : Nat → Nat → Nat → Bool} {d : Nat → Nat → Nat → Int32} {o : ev_W} {H H1 : Heap} {r i k0 : Nat} (h : sd_R g (n, lk, d, o) H) (hr : r < 62) (ha : sd_al (n, o.1, o.2.1) r i) (ht : (ev_tg r k0 i).1 < 62 ∧ sd_al (n, o.1, o.2.1) (ev_tg r k0 i).1 (ev_tg r k0 i).2) (hz : H1.size = H.size) (oq : ∀ q : Nat, q ≠ sd_ad g r i → H1[q]? = H[q]?) (hc : sd_c g (n, ev_lk lk r i k0 true, d, o) r i H1) : sd_R g (n, ev_lk lk r i k0 true, d, o) H1 := by
  refine h.put hr ha rfl hz oq (fun _ _ k h => sd_lk_off k h) (fun _ _ _ _ => rfl) rfl hc (fun k a b c => ?_)
  have c : ev_lk lk r i k0 true r i k = true := c
  rw [sd_lk_on] at c
  by_cases e : k = k0
  · rw [e]; exact ht
  · rw [if_neg e] at c; exact h.lks hr ha k a b c
theorem sd_putR (C : sd_cx p l R s m args meth c g mi) {pc b a len : Nat} {tb : List Nat} {x : Int32} (hck : sd_k3 mi pc 1 a b len x tb = true) {n : Nat} {lk : Nat → Nat → Nat → Bool} {d : Nat → Nat → Nat → Int32} {o : ev_W} {r i : Nat} {H : Heap} {locs : List Loc} {cl sl : Nat} {vl : Array Slot} {vs : List Value}
    (hkn : ev_kn r = (0, a)) (hrf : ev_rf a b = true) (hg : sd_gd (n, o.1, o.2.1) r i) (ht : (ev_tg r b i).1 < 62 ∧ sd_al (n, o.1, o.2.1) (ev_tg r b i).1 (ev_tg r b i).2) (hS : va_S (sd_A g) s.heap H locs) (hR : sd_R g (n, lk, d, o) H)
    (k : ∀ (H1 : Heap) (locs1 : List Loc), va_S (sd_A g) s.heap H1 locs1 → sd_R g (n, ev_lk lk r i b true, d, o) H1 → W p l e R s m args below meth c H1 locs1 cl sl Q (F0 m (pc + len) vl vs)) : W p l e R s m args below meth c H locs cl sl Q (F0 m pc vl (.ref (sd_ad g (ev_tg r b i).1 (ev_tg r b i).2) :: .ref (sd_ad g r i) :: vs)) := by
  obtain ⟨hx, hb, hml, hown, hts, hX, -, -, -, -, hinit, -⟩ := C
  simp only [sd_k3, Bool.and_eq_true, hrf, Bool.not_true, Bool.false_or] at hck
  obtain ⟨hd, hlen, hb2, hw, hns, hnm, hcls⟩ := hck
  have el := Nat.eq_of_beq_eq_true hlen
  subst el
  have hr : r < 62 := sd_kn62 (by rw [hkn]; show 0 < 6; decide)
  have ha := sd_al62 hg hr
  have h11 := sd_al11 ha hkn
  obtain ⟨q, hq, hO⟩ := sd_c0 (hR.1 r i hr ha) hkn
  rw [hq] at hw hcls
  have hw : sd_wn (sd_y mi).cls (tb.getD 0 0) (tb.getD 1 0) (tb.getD 2 0) q.1 (q.2.1 b).2.1 (q.2.1 b).2.2.1 = true := hw
  have hcls : q.1 = (sd_y mi).cls := of_decide_eq_true hcls
  have hin := hinit (of_decide_eq_true hnm)
  have hns := Nat.eq_of_beq_eq_true hns
  have hbn : b < q.2.2 := by rw [(sd_fl hq h11).1]; exact Nat.le_of_ble_eq_true hb2
  obtain ⟨hown2, hfl⟩ := (sd_fl hq h11).2 b hbn
  obtain ⟨hfin, ty, hp, href⟩ : (q.2.1 b).2.2.2 = true ∧ ∃ t, parseFieldDescriptor (q.2.1 b).2.2.1 = some t ∧ t.isReference = true := by
    rcases hfl with ⟨-, h2, h3⟩ | ⟨h1, -⟩
    · exact ⟨h2, h3⟩
    · rw [hrf] at h1; cases h1
  obtain ⟨tyf, htyf⟩ := sd_tyo hq
  have hap := va_apart (own := q.1) hts (sd_lg hq) tyf htyf (sd_nm hq) hX.1 hq
  obtain ⟨hSl, hfc, kC, hkC, hkind⟩ := hX.1.1 a _ hq
  obtain ⟨cf, kf, fi, f, hi, hsl⟩ := hSl b hbn
  obtain ⟨cell, q1, q2, q3, q4⟩ := hO
  have hlay := hts _ (sd_lg hq _ (u_in_lay hbn))
  unfold u_lay at hlay
  rw [if_pos hfin] at hlay
  have hst := (u_facts hfc hkC (u_lays hts (sd_lg hq) hbn) hi).1
  have hcf : m.cls = cf := by
    obtain ⟨_, _, c', _, _, _, -, -, hf', -, -, -, hown3, -⟩ := Cond.laysFinal_spec hlay
    have e1 : c' = cf := by have := hi.symm.trans hf'; simp at this; exact this.1.symm
    rw [hown2, hcls] at hown3
    rw [← e1]; exact Option.some.inj (hown.symm.trans hown3)
  have h6 := u_fits (v := .ref (sd_ad g (ev_tg r b i).1 (ev_tg r b i).2)) hfc hkC hkind (Or.inr hlay) hi hp (sd_narR _ _) (sd_fitR _ href)
  have hi' := hi
  rw [hown2] at hi'
  rcases sd_wn_use hts hX hw with ⟨-, hl⟩ | ⟨h0, -⟩
  · refine W.putFinK hx hb hown hl hi' hst hcf hin (by rw [q2]; exact h6) q1 q3 (by rw [hsl]; exact k2_hasslot (q4 b hbn)) rfl rfl (sd_is_eq hd) fun H' e1 e2 e3 => ?_
    rw [hsl] at e1
    refine k H' _ (hS.put e2 e3 (sd_ad_ge hr)) (hR.putr hr ha ht e2 e3 ?_)
    unfold sd_c
    rw [hkn]
    refine ⟨q, hq, t_OB.to (V := updV (fun k => if ev_rf a k = true then sd_lv g (n, lk, d, o) r i k else .int (d r i k)) b (.ref (sd_ad g (ev_tg r b i).1 (ev_tg r b i).2))) ⟨_, e1, q2, q3, t_set q4 hap hbn _⟩ (fun j hj => ?_)⟩
    show (if j = b then Value.ref (sd_ad g (ev_tg r b i).1 (ev_tg r b i).2) else (if ev_rf a j = true then sd_lv g (n, lk, d, o) r i j else .int (d r i j))) = (if ev_rf a j = true then sd_lv g (n, ev_lk lk r i b true, d, o) r i j else .int (d r i j))
    have elv : sd_lv g (n, ev_lk lk r i b true, d, o) r i j = if j = b then .ref (sd_ad g (ev_tg r j i).1 (ev_tg r j i).2) else sd_lv g (n, lk, d, o) r i j := by
      unfold sd_lv
      show (if ev_lk lk r i b true r i j = true then _ else _) = _
      rw [sd_lk_on]
      by_cases e : j = b
      · rw [if_pos e, if_pos e, if_pos rfl]
      · rw [if_neg e, if_neg e]
    rw [elv]
    by_cases e : j = b
    · rw [if_pos e, if_pos e, e, hrf, if_pos rfl]
    · rw [if_neg e, if_neg e]
  · exact absurd hns h0
/-- a number put into a row -/
theorem sd_rowp {n : Nat} {lk : Nat → Nat → Nat → Bool} {d : Nat → Nat → Nat → Int32} {o : ev_W} {H1 : Heap} {r i t N k : Nat} {v : Int32} (hkn : ev_kn r = (t, N)) (h0 : t ≠ 0) (h5 : t ≠ 5)
    (e : H1[sd_ad g r i]? = some ((arrV (g.2.2.1 t) N (fun k => .int (d r i k))).setSlot k (.int v))) : sd_c g (n, lk, ev_u3 d r i k v, o) r i H1 := by
  refine sd_cell' hkn h0 h5 ?_
  rw [e, arrV_store]
  congr 2
  funext j
  show (if j = k then Value.int v else .int (d r i j)) = .int (ev_u3 d r i k v r i j)
  rw [sd_u3_on]
  by_cases q : j = k
  · rw [if_pos q, if_pos q]
  · rw [if_neg q, if_neg q]
end SD6
