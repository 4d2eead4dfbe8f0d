/-! THE START: from the law's entry to the evaluator -/
theorem sd_fl0 : ∀ w ∈ flatC (Jvm.Cond.and given_1 narrow_1), w ∈ flatC (Jvm.Cond.and given_1 narrow_1) := fun _ h => h
def sd_fw : List Cond := flatC (Jvm.Cond.and given_1 narrow_1)
def sd_tm (i : Nat) : Term := .string (sd_sr.getD i ("", 0, "", 0)).1 (sd_sr.getD i ("", 0, "", 0)).2.1
def sd_sw (i : Nat) : List Cond := [.exactly (sd_tm i) "java/lang/String", .eq (.field (sd_tm i) "java/lang/String" "coder" "B") (.int 0), .arrayOf (.field (sd_tm i) "java/lang/String" "value" "[B") .byte, .eq (.length (.field (sd_tm i) "java/lang/String" "value" "[B")) (.int (Int32.ofNat (ev_sl i)))]
def sd_sx (i j : Nat) : Cond := .eq (.elem (.field (sd_tm i) "java/lang/String" "value" "[B") (.int (Int32.ofNat j))) (.int (ev_sb i j))
def sd_bi : List Nat := [83, 93, 103, 111, 118, 129, 138, 146, 155, 162, 170, 182, 192, 200, 208, 223, 234, 243, 274, 295, 332, 360, 369, 377, 398, 409, 418, 426, 438, 448, 457, 467, 475, 484, 497]
def sd_sq1 (i : Nat) : Bool := (List.range 4).all (fun k => decide (sd_fw[sd_bi.getD i 0 + k]? = (sd_sw i)[k]?)) && (List.range (ev_sl i)).all (fun j => decide (sd_fw[sd_bi.getD i 0 + 4 + j]? = some (sd_sx i j)))
theorem sd_sq1a : ∀ i, i < 12 → sd_sq1 i = true := by decide +kernel
theorem sd_sq1b : ∀ i, i < 12 → sd_sq1 (i + 12) = true := by decide +kernel
theorem sd_sq1c : ∀ i, i < 11 → sd_sq1 (i + 24) = true := by decide +kernel
theorem sd_sq1o {i : Nat} (h : i < 35) : sd_sq1 i = true := by
  by_cases h1 : i < 12
  · exact sd_sq1a i h1
  by_cases h2 : i < 24
  · have := sd_sq1b (i - 12) (by omega)
    rwa [show i - 12 + 12 = i by omega] at this
  · have := sd_sq1c (i - 24) (by omega)
    rwa [show i - 24 + 24 = i by omega] at this
theorem sd_sw_ok (i : Nat) (h : i < 35) : (sd_sw i).all (fun w => decide (w ∈ sd_fw)) = true := by
  have h1 := sd_sq1o h
  simp only [sd_sq1, Bool.and_eq_true] at h1
  refine List.all_eq_true.mpr fun w hw => decide_eq_true ?_
  obtain ⟨k, hk⟩ := List.getElem?_of_mem hw
  have hk4 : k < 4 := (List.getElem?_eq_some_iff.mp hk).1
  have := of_decide_eq_true (List.all_eq_true.mp h1.1 k (List.mem_range.mpr hk4))
  rw [hk] at this
  exact List.mem_of_getElem? this
theorem sd_sx_ok (i : Nat) (h : i < 35) : (List.range (ev_sl i)).all (fun j => decide (sd_sx i j ∈ sd_fw)) = true := by
  have h1 := sd_sq1o h
  simp only [sd_sq1, Bool.and_eq_true] at h1
  refine List.all_eq_true.mpr fun j hj => decide_eq_true ?_
  exact List.mem_of_getElem? (of_decide_eq_true (List.all_eq_true.mp h1.2 j hj))
theorem sd_sl_ok : ∀ i, i < 35 → ev_sl i < 1000 := by decide +kernel
theorem sd_st_ok : ∀ i, i < 35 → sd_tt (sd_sr.getD i ("", 0, "", 0)).2.2.2 = some (.stringRef (sd_sr.getD i ("", 0, "", 0)).1 (sd_sr.getD i ("", 0, "", 0)).2.1 (sd_sr.getD i ("", 0, "", 0)).2.2.1) := by decide +kernel
def sd_ar (j : Nat) : Term := .static "RefreshTrader" (sd_sn j) "[I"
def sd_aw2 (j : Nat) : List Cond := [.arrayOf (sd_ar j) .int, .eq (.length (sd_ar j)) (.int 7)] ++ (List.range 7).map fun k => .eq (.elem (sd_ar j) (.int (Int32.ofNat k))) (.int (ev_sa j k))
theorem sd_aw2_o : ∀ j, j < 3 → (List.range 9).all (fun k => decide (sd_fw[[22, 32, 5].getD j 0 + k]? = (sd_aw2 j)[k]?)) = true := by decide +kernel
theorem sd_aw2_ok (j : Nat) (h : j < 3) : (sd_aw2 j).all (fun w => decide (w ∈ sd_fw)) = true := by
  refine List.all_eq_true.mpr fun w hw => decide_eq_true ?_
  obtain ⟨k, hk⟩ := List.getElem?_of_mem hw
  have hk9 : k < 9 := (List.getElem?_eq_some_iff.mp hk).1
  have := of_decide_eq_true (List.all_eq_true.mp (sd_aw2_o j h) k (List.mem_range.mpr hk9))
  rw [hk] at this
  exact List.mem_of_getElem? this
theorem sd_lay_ok : (∀ j, j < 3 → lw_tbl.any (fun x => decide (x = .laysStatic "RefreshTrader" (sd_sn j) "[I")) = true) ∧ lw_tbl.any (fun x => decide (x = .initialized "RefreshTrader")) = true ∧
    lw_tbl.any (fun x => decide (x = .laysStatic "java/lang/String" "COMPACT_STRINGS" "Z")) = true ∧ lw_tbl.any (fun x => decide (x = .initialized "java/lang/String")) = true ∧
    lw_tbl.any (fun x => decide (x = .laysStatic "jdk/internal/util/Preconditions" "SIOOBE_FORMATTER" "Ljava/util/function/BiFunction;")) = true ∧ lw_tbl.any (fun x => decide (x = .initialized "jdk/internal/util/Preconditions")) = true ∧
    lw_tbl.any (fun x => decide (x = .laysStatic Bundle.tN "UNASSIGNED_STACK" Bundle.steD)) = true ∧ lw_tbl.any (fun x => decide (x = .laysStatic Bundle.tN "SUPPRESSED_SENTINEL" Bundle.listD)) = true ∧ lw_tbl.any (fun x => decide (x = .initialized Bundle.tN)) = true := by decide +kernel
theorem sd_f_ok : (.eq (.static "java/lang/String" "COMPACT_STRINGS" "Z") (.int 1)) ∈ sd_fw ∧ (.isRef (.static "jdk/internal/util/Preconditions" "SIOOBE_FORMATTER" "Ljava/util/function/BiFunction;")) ∈ sd_fw ∧ (.isRef (.static Bundle.tN "UNASSIGNED_STACK" Bundle.steD)) ∈ sd_fw ∧ (.isRef (.static Bundle.tN "SUPPRESSED_SENTINEL" Bundle.listD)) ∈ sd_fw := by decide +kernel
theorem sd_nc_ok : ∀ a, a < 3 → ∀ b, b < 3 → a ≠ b → (Cond.not (.castable (sd_xn a) (sd_xn b))) ∈ sd_fw := by decide +kernel
theorem sd_arr1 {s : State} {args : Array Value} (hts : ∀ w ∈ lw_tbl, w.before args s = true) {a : Nat} (h0 : 0 < a) (h5 : a < 5) : ∃ cA : ClassId, ArrOfT s cA (newarray.typeOf (sd_at4 a)) ∧ va_RA s cA (newarray.typeOf (sd_at4 a)) := by
  have hw := sd_any (sd_aw_ok a h5)
  obtain ⟨cA, kA, comp, h1, h2, h3⟩ := Cond.arrayClass_spec (hts _ (List.mem_filter.mp hw).1)
  refine ⟨cA, fun n z => ⟨fun k h => (by cases h), kA, h2, comp, h3⟩, ?_⟩
  match a, h0, h5, h1 with
  | 1, _, _, h1 => exact h1
  | 2, _, _, h1 => exact h1
  | 3, _, _, h1 => exact h1
  | 4, _, _, h1 => exact h1
theorem sd_begin {s : State} {b L : Nat} {xs : Nat → Int32} (hts : ∀ w ∈ lw_tbl, w.before #[Value.ref b] s = true) (hX : va_X b L xs s s.heap) (hb : b < s.heap.size) (hgv : (Jvm.Cond.and given_1 narrow_1).before #[Value.ref b] s = true) : ∃ g : sd_G, g.1 = s.heap.size ∧ g.2.2.2.2.2.2.1 = b ∧ g.2.2.2.2.2.2.2.1 = L ∧ g.2.2.2.2.2.2.2.2 = xs ∧ sd_X g s s.heap := by
  have hs := flat_of_before _ hgv
  have hA : ∀ a : Nat, a < s.heap.size → ¬ (fun q : Nat => s.heap.size ≤ q) a := fun a h => Nat.not_le.mpr h
  -- classes
  have hc : ∀ ci : Nat, ∃ q : ClassId × (Nat → Nat), ∀ r, vwCl[ci]? = some r → u_Kn s r.1 r.2.1 r.2.2 q.1 q.2 := by
    intro ci
    cases hr : vwCl[ci]? with
    | none => exact ⟨(0, fun _ => 0), fun r h => by cases h⟩
    | some r =>
      have hck := sd_ck_ok ci (sd_ci hr)
      unfold sd_ck at hck
      rw [hr] at hck
      have hck : (lw_tbl.any (fun w => decide (w = .instantiable r.1 (ev_nf ci)) && goodWord w) && lw_tbl.any (fun w => decide (w = .initialized r.1) && goodWord w)) = true := hck
      simp only [Bool.and_eq_true] at hck
      obtain ⟨cC, iS, h⟩ := u_known (T := r.2.1) (N := r.2.2) hts (sd_lw hr) (hts _ (List.mem_filter.mp (sd_any hck.1)).1)
      exact ⟨(cC, iS), fun r' h' => by cases h'; exact h⟩
  obtain ⟨fc, hfc⟩ := Classical.axiomOfChoice hc
  -- classes of arrays
  obtain ⟨a1, ha1⟩ := sd_arr1 hts (a := 1) (by decide) (by decide)
  obtain ⟨a2, ha2⟩ := sd_arr1 hts (a := 2) (by decide) (by decide)
  obtain ⟨a3, ha3⟩ := sd_arr1 hts (a := 3) (by decide) (by decide)
  obtain ⟨a4, ha4⟩ := sd_arr1 hts (a := 4) (by decide) (by decide)
  obtain ⟨comp, a5, k5, q1, q2, q3, q4, q5⟩ := Cond.arrayOver_spec (hts _ (sd_inw sd_av_ok))
  -- texts
  have ht : ∀ i : Nat, ∃ q : Nat × Nat, i < 35 → (sd_tm i).eval #[Value.ref b] s none [] s = some (.ref q.1) ∧ va_O "java/lang/String" q.1 (fun q => s.heap.size ≤ q) s s.heap ∧ va_OF "java/lang/String" "coder" "B" (.int 0) q.1 (fun q => s.heap.size ≤ q) s s.heap ∧ va_OF "java/lang/String" "value" "[B" (.ref q.2) q.1 (fun q => s.heap.size ≤ q) s s.heap ∧ va_T .byte q.2 (ev_sl i) (fun j => .int (ev_sb i j)) (fun q => s.heap.size ≤ q) s s.heap := by
    intro i
    by_cases hi : i < 35
    · have hw := sd_sw_ok i hi
      simp only [sd_sw, List.all_cons, List.all_nil, Bool.and_eq_true, decide_eq_true_eq] at hw
      obtain ⟨w1, w2, w3, w4, -⟩ := hw
      obtain ⟨a, c, cA, kA, q1, q2, q3, q4, q5, q6, -⟩ := Cond.exactly_spec (args := #[Value.ref b]) (first := s) (o := none) (s := s) (idx := []) (t := sd_tm i) (cls := "java/lang/String") (hs _ w1)
      obtain ⟨t, ht, hT⟩ := va_Tof (f := fun j => .int (ev_sb i j)) (A := fun q => s.heap.size ≤ q) (by have := sd_sl_ok i hi; omega) (hs _ w3) (va_eqt (hs _ w4)) (fun j hj => va_eqt (hs _ (of_decide_eq_true (List.all_eq_true.mp (sd_sx_ok i hi) j (List.mem_range.mpr hj))))) hA
      exact ⟨(a, t), fun _ => ⟨q1, ⟨cA, q3, q5, by rw [q6]; exact q2, hA a (Array.getElem?_eq_some_iff.mp q3).1⟩, vk_OFof q1 (va_eqt (hs _ w2)) hA, vk_OFof q1 ht hA, hT⟩⟩
    · exact ⟨(0, 0), fun h => absurd h hi⟩
  obtain ⟨ft, hft⟩ := Classical.axiomOfChoice ht
  -- static arrays
  have hz : ∀ j : Nat, ∃ t : Nat, j < 3 → va_Z "RefreshTrader" (sd_sn j) "[I" (.ref t) (fun q => s.heap.size ≤ q) s s.heap ∧ va_T .int t 7 (fun k => .int (ev_sa j k)) (fun q => s.heap.size ≤ q) s s.heap := by
    intro j
    by_cases hj : j < 3
    · have hw : ∀ w ∈ sd_aw2 j, w ∈ sd_fw := fun w h => of_decide_eq_true (List.all_eq_true.mp (sd_aw2_ok j hj) w h)
      obtain ⟨t, h1, h2⟩ := va_Tof (f := fun k => .int (ev_sa j k)) (A := fun q => s.heap.size ≤ q) (N := 7) (by decide) (hs _ (hw (.arrayOf (sd_ar j) .int) (by unfold sd_aw2; exact List.mem_append_left _ List.mem_cons_self))) (va_eqt (hs _ (hw (.eq (.length (sd_ar j)) (.int 7)) (by unfold sd_aw2; exact List.mem_append_left _ (List.mem_cons_of_mem _ List.mem_cons_self))))) (fun k hk => va_eqt (hs _ (hw _ (List.mem_append_right _ (List.mem_map.mpr ⟨k, List.mem_range.mpr hk, rfl⟩))))) hA
      exact ⟨t, fun _ => ⟨va_Zof (hts _ (sd_inw (sd_lay_ok.1 j hj))) (hts _ (sd_inw sd_lay_ok.2.1)) h1 hA, h2⟩⟩
    · exact ⟨0, fun h => absurd h hj⟩
  obtain ⟨fz, hfz⟩ := Classical.axiomOfChoice hz
  refine ⟨(s.heap.size, (fun c => (fc c).1, fun c => (fc c).2), (fun k => match k with | 1 => a1 | 2 => a2 | 3 => a3 | 4 => a4 | _ => a5), (fun i => (ft i).1), (fun i => (ft i).2), fz, b, L, xs), rfl, rfl, rfl, rfl, ⟨fun c q h => hfc c q h, fun k q h => ?_⟩, fun w hw hn => ?_, fun i hi => ?_, fun i hi => ?_, fun j hj => hfz j hj, ?_, ?_, ?_, ?_, fun x y hx hy hne => va_Nc.of (hs _ (sd_nc_ok x hx y hy hne)), hX, hb⟩
  · match k, h with
    | 0, h => cases h; exact ha1
    | 1, h => cases h; exact ha2
    | 2, h => cases h; exact ha3
    | 3, h => cases h; exact ha4
    | 4, h => cases h; exact ⟨fun n z => ⟨fun k h => (by cases h), k5, q3, comp, q4⟩, k5, comp, q3, q4, q1, q5⟩
    | k + 5, h => cases h
  · have h1 := hts w hw
    cases w <;> first | exact va_tabs rfl rfl h1 | (rename_i ty; cases ty <;> first | exact va_AO.of h1 | exact absurd hn (by simp [sd_nb])) | exact absurd hn (by simp [sd_nb])
  · exact vk_R.of (hts _ (sd_tt_in (sd_st_ok i hi))) (by
      have := (hft i hi).1
      exact this)
  · exact (hft i hi).2
  · exact va_Zof (hts _ (sd_inw sd_lay_ok.2.2.1)) (hts _ (sd_inw sd_lay_ok.2.2.2.1)) (va_eqt (hs _ sd_f_ok.1)) hA
  · exact va_Zqof (hts _ (sd_inw sd_lay_ok.2.2.2.2.1)) (hts _ (sd_inw sd_lay_ok.2.2.2.2.2.1)) (hs _ sd_f_ok.2.1) hA
  · exact vx_Zqof (hts _ (sd_inw sd_lay_ok.2.2.2.2.2.2.1)) (hts _ (sd_inw sd_lay_ok.2.2.2.2.2.2.2.2)) (hs _ sd_f_ok.2.2.1) hA
  · exact vx_Zqof (hts _ (sd_inw sd_lay_ok.2.2.2.2.2.2.2.1)) (hts _ (sd_inw sd_lay_ok.2.2.2.2.2.2.2.2)) (hs _ sd_f_ok.2.2.2) hA
