/-! THE START: from the law's entry to the evaluator -/
theorem sd_fl0 : ∀ w ∈ flatC (Jvm.Cond.and given_1 narrow_1), w ∈ flatC (Jvm.Cond.and given_1 narrow_1) := fun _ h => h
def sd_fw : List Cond := flatC (Jvm.Cond.and given_1 narrow_1)
def sd_tm (i : Nat) : Term := .string (sd_sr.getD i ("", 0, "", 0)).1 (sd_sr.getD i ("", 0, "", 0)).2.1
def sd_sw (i : Nat) : List Cond := [.exactly (sd_tm i) "java/lang/String", .eq (.field (sd_tm i) "java/lang/String" "coder" "B") (.int 0), .arrayOf (.field (sd_tm i) "java/lang/String" "value" "[B") .byte, .eq (.length (.field (sd_tm i) "java/lang/String" "value" "[B")) (.int (Int32.ofNat (ev_sl i)))]
def sd_sx (i j : Nat) : Cond := .eq (.elem (.field (sd_tm i) "java/lang/String" "value" "[B") (.int (Int32.ofNat j))) (.int (ev_sb i j))
def sd_bi : List Nat := [406, 416, 426, 434, 441, 452, 462, 471, 481, 489, 498, 511, 522, 539, 612, 688, 648, 657, 627, 547, 584, 530, 0, 0, 0, 0, 0, 0, 0, 0, 0, 0, 0, 0, 0, 303, 314, 323, 332, 340, 349, 356, 364, 376, 386, 398]
def sd_sq1 (i : Nat) : Bool := (List.range 4).all (fun k => decide (sd_fw[sd_bi.getD i 0 + k]? = (sd_sw i)[k]?)) && (List.range (ev_sl i)).all (fun j => decide (sd_fw[sd_bi.getD i 0 + 4 + j]? = some (sd_sx i j)))
theorem sd_sq1a : ∀ i, i < 12 → (!(ev_so i) || sd_sq1 i) = true := by decide +kernel
theorem sd_sq1b : ∀ i, i < 10 → (!(ev_so (i + 12)) || sd_sq1 (i + 12)) = true := by decide +kernel
theorem sd_sq1c : ∀ i, i < 24 → (!(ev_so (i + 22)) || sd_sq1 (i + 22)) = true := by decide +kernel
theorem sd_so46' {i : Nat} (h : ev_so i = true) : i < 46 := by
  unfold ev_so at h
  by_cases h1 : i ≤ 45
  · omega
  · have a : Nat.ble i 34 = false := by rw [Bool.eq_false_iff]; intro z; have := Nat.le_of_ble_eq_true z; omega
    have b : Nat.ble i 45 = false := by rw [Bool.eq_false_iff]; intro z; have := Nat.le_of_ble_eq_true z; omega
    rw [a, b] at h
    cases h
theorem sd_sq1o {i : Nat} (h : ev_so i = true) : sd_sq1 i = true := by
  have h46 := sd_so46' h
  by_cases h1 : i < 12
  · have := sd_sq1a i h1
    rw [h] at this
    exact this
  by_cases h2 : i < 22
  · have := sd_sq1b (i - 12) (by omega)
    rw [show i - 12 + 12 = i by omega, h] at this
    exact this
  · have := sd_sq1c (i - 22) (by omega)
    rw [show i - 22 + 22 = i by omega, h] at this
    exact this
theorem sd_sw_ok (i : Nat) (h : ev_so i = true) : (sd_sw i).all (fun w => decide (w ∈ sd_fw)) = true := by
  have h1 := sd_sq1o h
  simp only [sd_sq1, Bool.and_eq_true] at h1
  refine List.all_eq_true.mpr fun w hw => decide_eq_true ?_
  obtain ⟨k, hk⟩ := List.getElem?_of_mem hw
  have hk4 : k < 4 := (List.getElem?_eq_some_iff.mp hk).1
  have := of_decide_eq_true (List.all_eq_true.mp h1.1 k (List.mem_range.mpr hk4))
  rw [hk] at this
  exact List.mem_of_getElem? this
theorem sd_sx_ok (i : Nat) (h : ev_so i = true) : (List.range (ev_sl i)).all (fun j => decide (sd_sx i j ∈ sd_fw)) = true := by
  have h1 := sd_sq1o h
  simp only [sd_sq1, Bool.and_eq_true] at h1
  refine List.all_eq_true.mpr fun j hj => decide_eq_true ?_
  exact List.mem_of_getElem? (of_decide_eq_true (List.all_eq_true.mp h1.2 j hj))
theorem sd_sl_ok : ∀ i, i < 46 → ev_sl i < 1000 := by decide +kernel
theorem sd_st_ok0 : ∀ i, i < 46 → (!(ev_so i) || decide (sd_tt (sd_sr.getD i ("", 0, "", 0)).2.2.2 = some (.stringRef (sd_sr.getD i ("", 0, "", 0)).1 (sd_sr.getD i ("", 0, "", 0)).2.1 (sd_sr.getD i ("", 0, "", 0)).2.2.1))) = true := by decide +kernel
theorem sd_st_ok (i : Nat) (h : ev_so i = true) : sd_tt (sd_sr.getD i ("", 0, "", 0)).2.2.2 = some (.stringRef (sd_sr.getD i ("", 0, "", 0)).1 (sd_sr.getD i ("", 0, "", 0)).2.1 (sd_sr.getD i ("", 0, "", 0)).2.2.1) := by
  have := sd_st_ok0 i (sd_so46' h)
  rw [h] at this
  exact of_decide_eq_true this
def sd_ar (j : Nat) : Term := .static (sd_so j) (sd_sn j) "[I"
def sd_aw2 (j : Nat) : List Cond := [.arrayOf (sd_ar j) .int, .eq (.length (sd_ar j)) (.int 7)] ++ (List.range 7).map fun k => .eq (.elem (sd_ar j) (.int (Int32.ofNat k))) (.int (ev_sa j k))
theorem sd_aw2_o : ∀ j, j < 5 → (List.range 9).all (fun k => decide (sd_fw[[248, 258, 5, 226, 236].getD j 0 + k]? = (sd_aw2 j)[k]?)) = true := by decide +kernel
theorem sd_aw2_ok (j : Nat) (h : j < 5) : (sd_aw2 j).all (fun w => decide (w ∈ sd_fw)) = true := by
  refine List.all_eq_true.mpr fun w hw => decide_eq_true ?_
  obtain ⟨k, hk⟩ := List.getElem?_of_mem hw
  have hk9 : k < 9 := (List.getElem?_eq_some_iff.mp hk).1
  have := of_decide_eq_true (List.all_eq_true.mp (sd_aw2_o j h) k (List.mem_range.mpr hk9))
  rw [hk] at this
  exact List.mem_of_getElem? this
/-- the digits -/
def sd_dr (j : Nat) : Term := .static "java/lang/Integer" (sd_sn j) "[B"
def sd_dx (j k : Nat) : Cond := .eq (.elem (sd_dr j) (.int (Int32.ofNat k))) (.int (ev_dg (j - 5) k))
theorem sd_dw_o : ∀ j, j < 2 → (decide ((.arrayOf (sd_dr (j + 5)) .byte) ∈ sd_fw) && decide ((Cond.eq (.length (sd_dr (j + 5))) (.int 100)) ∈ sd_fw) && (List.range 100).all (fun k => decide (sd_fw[[22, 125].getD j 0 + k]? = some (sd_dx (j + 5) k)))) = true := by decide +kernel
theorem sd_dw_ok {j : Nat} (h5 : 5 ≤ j) (h : j < 7) : (.arrayOf (sd_dr j) .byte) ∈ sd_fw ∧ (Cond.eq (.length (sd_dr j)) (.int 100)) ∈ sd_fw ∧ ∀ k, k < 100 → sd_dx j k ∈ sd_fw := by
  have := sd_dw_o (j - 5) (by omega)
  rw [show j - 5 + 5 = j by omega] at this
  simp only [Bool.and_eq_true, decide_eq_true_eq] at this
  exact ⟨this.1.1, this.1.2, fun k hk => List.mem_of_getElem? (of_decide_eq_true (List.all_eq_true.mp this.2 k (List.mem_range.mpr hk)))⟩
theorem sd_lay_ok : (∀ j, j < 5 → lw_tbl.any (fun x => decide (x = .laysStatic (sd_so j) (sd_sn j) "[I")) = true ∧ lw_tbl.any (fun x => decide (x = .initialized (sd_so j))) = true) ∧
    (∀ j, j < 2 → lw_tbl.any (fun x => decide (x = .laysStatic "java/lang/Integer" (sd_sn (j + 5)) "[B")) = true) ∧ lw_tbl.any (fun x => decide (x = .initialized "java/lang/Integer")) = true ∧
    lw_tbl.any (fun x => decide (x = .laysStatic "java/lang/String" "COMPACT_STRINGS" "Z")) = true ∧ lw_tbl.any (fun x => decide (x = .initialized "java/lang/String")) = true ∧
    lw_tbl.any (fun x => decide (x = .laysStatic "jdk/internal/util/Preconditions" "SIOOBE_FORMATTER" "Ljava/util/function/BiFunction;")) = true ∧ lw_tbl.any (fun x => decide (x = .initialized "jdk/internal/util/Preconditions")) = true ∧
    lw_tbl.any (fun x => decide (x = .laysStatic Bundle.tN "UNASSIGNED_STACK" Bundle.steD)) = true ∧ lw_tbl.any (fun x => decide (x = .laysStatic Bundle.tN "SUPPRESSED_SENTINEL" Bundle.listD)) = true ∧ lw_tbl.any (fun x => decide (x = .initialized Bundle.tN)) = true := by decide +kernel
theorem sd_f_ok : (.eq (.static "java/lang/String" "COMPACT_STRINGS" "Z") (.int 1)) ∈ sd_fw ∧ (.isRef (.static "jdk/internal/util/Preconditions" "SIOOBE_FORMATTER" "Ljava/util/function/BiFunction;")) ∈ sd_fw ∧ (.isRef (.static Bundle.tN "UNASSIGNED_STACK" Bundle.steD)) ∈ sd_fw ∧ (.isRef (.static Bundle.tN "SUPPRESSED_SENTINEL" Bundle.listD)) ∈ sd_fw := by decide +kernel
theorem sd_arr1 {s : State} {args : Array Value} (hts : ∀ w ∈ lw_tbl, w.before args s = true) {a : Nat} (h0 : 0 < a) (h5 : a < 4) : ∃ cA : ClassId, ArrOfT s cA (newarray.typeOf (sd_at4 a)) ∧ va_RA s cA (newarray.typeOf (sd_at4 a)) := by
  have hw := sd_any (sd_aw_ok a h5)
  obtain ⟨cA, kA, comp, h1, h2, h3⟩ := Cond.arrayClass_spec (hts _ (by
    obtain ⟨x, hx, h2⟩ := List.any_eq_true.mp (sd_aw_ok a h5)
    simp only [Bool.and_eq_true, decide_eq_true_eq] at h2
    exact h2.1 ▸ hx))
  refine ⟨cA, fun n z => ⟨fun k h => (by cases h), kA, h2, comp, h3⟩, ?_⟩
  match a, h0, h5, h1 with
  | 1, _, _, h1 => exact h1
  | 2, _, _, h1 => exact h1
  | 3, _, _, h1 => exact h1
/-- what is selected of the private methods of a class that is not made, on a receiver of a class below it -/
theorem sd_selp {C : String} {y z : MethodName} {s : State} {args : Array Value} (hy : y.cls ≠ "java/lang/invoke/MethodHandle" ∧ y.cls ≠ "java/lang/invoke/VarHandle") (hc : z.cls = y.cls)
    (hsel : (Cond.selects C z z).before args s = true) (hpriv : (Cond.privateMethod y).before args s = true) (hinst : (Cond.instanceMethod y).before args s = true) :
    (Cond.selects C y y).before args s = true := by
  obtain ⟨c, r2, m2, q1, q2, q3, q4, kP, hkP, hkPi⟩ := Cond.selects_spec hsel
  obtain ⟨mk, methM, hnamed, hmethM, -, -⟩ := Cond.instanceMethod_spec hinst
  have hfound : s.methodFound? y.cls y.name y.desc = some mk := State.methodFound?_of_named hnamed hy
  have hcls : mk.cls = m2.cls := Option.some.inj ((findClass_of_methodNamed hnamed).symm.trans (by rw [← hc]; exact findClass_of_methodNamed q3))
  have hsel : selectMethod {} s.vm c mk = .method mk := selectMethod_private hmethM (Cond.privateMethod_at hpriv mk methM hnamed hmethM)
  simp only [Cond.before, Cond.holds, Cond.value, q1, hfound, hnamed, hsel, hcls, hkP]
  simp
  exact hkPi
def sd_zl : MethodName := ⟨"java/lang/AbstractStringBuilder", "isLatin1", "()Z"⟩
theorem sd_ux_ok : lw_tbl.any (fun x => decide (x = .selects "java/lang/StringBuilder" sd_zl sd_zl)) = true ∧ ∀ y ∈ sd_uy, (y.cls ≠ "java/lang/invoke/MethodHandle" ∧ y.cls ≠ "java/lang/invoke/VarHandle") ∧ sd_zl.cls = y.cls ∧ lw_tbl.any (fun x => decide (x = .privateMethod y)) = true ∧ lw_tbl.any (fun x => decide (x = .instanceMethod y)) = true := by decide +kernel
theorem sd_hts0 {s : State} {args : Array Value} (hts : ∀ w ∈ lw_tbl, w.before args s = true) {w : Cond} (hw : w ∈ sd_all) : w.before args s = true := by
  rcases List.mem_append.mp hw with h | h
  · exact hts w h
  · obtain ⟨y, hy, rfl⟩ := List.mem_map.mp h
    obtain ⟨h1, h2, h3, h4⟩ := sd_ux_ok.2 y hy
    exact sd_selp h1 h2 (hts _ (sd_inw sd_ux_ok.1)) (hts _ (sd_inw h3)) (hts _ (sd_inw h4))
theorem sd_hts {s : State} {args : Array Value} (hts : ∀ w ∈ lw_tbl, w.before args s = true) : ∀ w ∈ sd_gw, w.before args s = true := fun w hw => sd_hts0 hts (List.mem_filter.mp hw).1
theorem sd_av_o : lw_tbl.any (fun x => decide (x = .arrayOver (.object RX8))) = true ∧ lw_tbl.any (fun x => decide (x = .arrayOver (.object RX11))) = true ∧ lw_tbl.any (fun x => decide (x = .arrayOver (.object RJ0))) = true := by decide +kernel
theorem sd_begin {s : State} {b L : Nat} {xs : Nat → Int32} (hts : ∀ w ∈ lw_tbl, w.before #[Value.ref b] s = true) (hX : va_X b L xs s s.heap) (hb : b < s.heap.size) (hgv : (Jvm.Cond.and given_1 narrow_1).before #[Value.ref b] s = true) : ∃ g : sd_G, g.1 = s.heap.size ∧ g.2.2.2.2.2.2.1 = b ∧ g.2.2.2.2.2.2.2.1 = L ∧ g.2.2.2.2.2.2.2.2 = xs ∧ sd_X g s s.heap := by
  have hs := flat_of_before _ hgv
  have hA : ∀ a : Nat, a < s.heap.size → ¬ (fun q : Nat => s.heap.size ≤ q) a := fun a h => Nat.not_le.mpr h
  -- classes
  have hc : ∀ ci : Nat, ∃ q : ClassId × (Nat → Nat), ∀ r, vwCl[ci]? = some r → u_Kn s r.1 r.2.1 r.2.2 q.1 q.2 := by
    intro ci
    cases hr : vwCl[ci]? with
    | none => exact ⟨(0, fun _ => 0), fun r h => by cases h⟩
    | some r =>
      have hck := sd_ck_ok ci (sd_ci hr)
      unfold sd_ck at hck
      rw [hr] at hck
      have hck : (lw_tbl.any (fun w => decide (w = .instantiable r.1 r.2.2) && goodWord w) && lw_tbl.any (fun w => decide (w = .initialized r.1) && goodWord w)) = true := hck
      simp only [Bool.and_eq_true] at hck
      obtain ⟨x, hx, h2⟩ := List.any_eq_true.mp hck.1
      simp only [Bool.and_eq_true, decide_eq_true_eq] at h2
      obtain ⟨cC, iS, h⟩ := u_known (T := r.2.1) (N := r.2.2) hts (sd_lw hr) (hts _ (h2.1 ▸ hx))
      exact ⟨(cC, iS), fun r' h' => by cases h'; exact h⟩
  obtain ⟨fc, hfc⟩ := Classical.axiomOfChoice hc
  -- classes of arrays
  obtain ⟨a1, ha1⟩ := sd_arr1 hts (a := 1) (by decide) (by decide)
  obtain ⟨a2, ha2⟩ := sd_arr1 hts (a := 2) (by decide) (by decide)
  obtain ⟨a3, ha3⟩ := sd_arr1 hts (a := 3) (by decide) (by decide)
  obtain ⟨comp, a5, k5, q1, q2, q3, q4, q5⟩ := Cond.arrayOver_spec (hts _ (sd_inw sd_av_o.1))
  obtain ⟨comp4, a4, k4, p1, p2, p3, p4, p5⟩ := Cond.arrayOver_spec (hts _ (sd_inw sd_av_o.2.1))
  obtain ⟨comp6, a6, k6, r1, r2, r3, r4, r5⟩ := Cond.arrayOver_spec (hts _ (sd_inw sd_av_o.2.2))
  -- texts
  have ht : ∀ i : Nat, ∃ q : Nat × Nat, ev_so i = true → (sd_tm i).eval #[Value.ref b] s none [] s = some (.ref q.1) ∧ va_O "java/lang/String" q.1 (fun q => s.heap.size ≤ q) s s.heap ∧ va_OF "java/lang/String" "coder" "B" (.int 0) q.1 (fun q => s.heap.size ≤ q) s s.heap ∧ va_OF "java/lang/String" "value" "[B" (.ref q.2) q.1 (fun q => s.heap.size ≤ q) s s.heap ∧ va_T .byte q.2 (ev_sl i) (fun j => .int (ev_sb i j)) (fun q => s.heap.size ≤ q) s s.heap := by
    intro i
    by_cases hi : ev_so i = true
    · have hw := sd_sw_ok i hi
      simp only [sd_sw, List.all_cons, List.all_nil, Bool.and_eq_true, decide_eq_true_eq] at hw
      obtain ⟨w1, w2, w3, w4, -⟩ := hw
      obtain ⟨a, c, cA, kA, q1, q2, q3, q4, q5, q6, -⟩ := Cond.exactly_spec (args := #[Value.ref b]) (first := s) (o := none) (s := s) (idx := []) (t := sd_tm i) (cls := "java/lang/String") (hs _ w1)
      obtain ⟨t, ht, hT⟩ := va_Tof (f := fun j => .int (ev_sb i j)) (A := fun q => s.heap.size ≤ q) (by have := sd_sl_ok i (sd_so46' hi); omega) (hs _ w3) (va_eqt (hs _ w4)) (fun j hj => va_eqt (hs _ (of_decide_eq_true (List.all_eq_true.mp (sd_sx_ok i hi) j (List.mem_range.mpr hj))))) hA
      exact ⟨(a, t), fun _ => ⟨q1, ⟨cA, q3, q5, by rw [q6]; exact q2, hA a (Array.getElem?_eq_some_iff.mp q3).1⟩, vk_OFof q1 (va_eqt (hs _ w2)) hA, vk_OFof q1 ht hA, hT⟩⟩
    · exact ⟨(0, 0), fun h => absurd h hi⟩
  obtain ⟨ft, hft⟩ := Classical.axiomOfChoice ht
  -- static arrays
  have hz : ∀ j : Nat, ∃ t : Nat, j < 7 → (j < 5 → va_Z (sd_so j) (sd_sn j) "[I" (.ref t) (fun q => s.heap.size ≤ q) s s.heap ∧ va_T .int t 7 (fun k => .int (ev_sa j k)) (fun q => s.heap.size ≤ q) s s.heap) ∧ (5 ≤ j → va_Z "java/lang/Integer" (sd_sn j) "[B" (.ref t) (fun q => s.heap.size ≤ q) s s.heap ∧ va_T .byte t 100 (fun k => .int (ev_dg (j - 5) k)) (fun q => s.heap.size ≤ q) s s.heap) := by
    intro j
    by_cases hj : j < 5
    · have hw : ∀ w ∈ sd_aw2 j, w ∈ sd_fw := fun w h => of_decide_eq_true (List.all_eq_true.mp (sd_aw2_ok j hj) w h)
      obtain ⟨t, h1, h2⟩ := va_Tof (f := fun k => .int (ev_sa j k)) (A := fun q => s.heap.size ≤ q) (N := 7) (by decide) (hs _ (hw (.arrayOf (sd_ar j) .int) (by unfold sd_aw2; exact List.mem_append_left _ List.mem_cons_self))) (va_eqt (hs _ (hw (.eq (.length (sd_ar j)) (.int 7)) (by unfold sd_aw2; exact List.mem_append_left _ (List.mem_cons_of_mem _ List.mem_cons_self))))) (fun k hk => va_eqt (hs _ (hw _ (List.mem_append_right _ (List.mem_map.mpr ⟨k, List.mem_range.mpr hk, rfl⟩))))) hA
      exact ⟨t, fun _ => ⟨fun _ => ⟨va_Zof (hts _ (sd_inw (sd_lay_ok.1 j hj).1)) (hts _ (sd_inw (sd_lay_ok.1 j hj).2)) h1 hA, h2⟩, fun h => by omega⟩⟩
    by_cases hj7 : j < 7
    · obtain ⟨w1, w2, w3⟩ := sd_dw_ok (by omega) hj7
      have hly := sd_lay_ok.2.1 (j - 5) (by omega)
      rw [show j - 5 + 5 = j by omega] at hly
      obtain ⟨t, h1, h2⟩ := va_Tof (f := fun k => .int (ev_dg (j - 5) k)) (A := fun q => s.heap.size ≤ q) (N := 100) (by decide) (hs _ w1) (va_eqt (hs _ w2)) (fun k hk => va_eqt (hs _ (w3 k hk))) hA
      exact ⟨t, fun _ => ⟨fun h => absurd h hj, fun _ => ⟨va_Zof (hts _ (sd_inw hly)) (hts _ (sd_inw sd_lay_ok.2.2.1)) h1 hA, h2⟩⟩⟩
    · exact ⟨0, fun h => absurd h hj7⟩
  obtain ⟨fz, hfz⟩ := Classical.axiomOfChoice hz
  refine ⟨(s.heap.size, (fun c => (fc c).1, fun c => (fc c).2), (fun k => match k with | 1 => a1 | 2 => a2 | 3 => a3 | 4 => a4 | 5 => a5 | _ => a6), (fun i => (ft i).1), (fun i => (ft i).2), fz, b, L, xs), rfl, rfl, rfl, rfl, ⟨fun c q h => hfc c q h, fun k q h => ?_⟩, fun w hw hn => ?_, fun i hi => ?_, fun i hi => ?_, fun j hj => hfz j hj, ?_, ?_, ?_, ?_, trivial, hX, hb⟩
  · match k, h with
    | 0, h => cases h; exact ha1
    | 1, h => cases h; exact ha2
    | 2, h => cases h; exact ha3
    | 3, h => cases h; exact ⟨fun n z => ⟨fun k h => (by cases h), k4, p3, comp4, p4⟩, k4, comp4, p3, p4, p1, p5⟩
    | 4, h => cases h; exact ⟨fun n z => ⟨fun k h => (by cases h), k5, q3, comp, q4⟩, k5, comp, q3, q4, q1, q5⟩
    | 5, h => cases h; exact ⟨fun n z => ⟨fun k h => (by cases h), k6, r3, comp6, r4⟩, k6, comp6, r3, r4, r1, r5⟩
    | k + 6, h => cases h
  · have h1 := hts w hw
    cases w <;> first | exact va_tabs rfl rfl h1 | (rename_i ty; cases ty <;> first | exact va_AO.of h1 | exact absurd hn (by simp [sd_nb])) | exact absurd hn (by simp [sd_nb])
  · exact vk_R.of (sd_hts0 hts (sd_tt_in (sd_st_ok i hi))) (by
      have := (hft i hi).1
      exact this)
  · exact (hft i hi).2
  · exact va_Zof (hts _ (sd_inw sd_lay_ok.2.2.2.1)) (hts _ (sd_inw sd_lay_ok.2.2.2.2.1)) (va_eqt (hs _ sd_f_ok.1)) hA
  · exact va_Zqof (hts _ (sd_inw sd_lay_ok.2.2.2.2.2.1)) (hts _ (sd_inw sd_lay_ok.2.2.2.2.2.2.1)) (hs _ sd_f_ok.2.1) hA
  · exact vx_Zqof (hts _ (sd_inw sd_lay_ok.2.2.2.2.2.2.2.1)) (hts _ (sd_inw sd_lay_ok.2.2.2.2.2.2.2.2.2)) (hs _ sd_f_ok.2.2.1) hA
  · exact vx_Zqof (hts _ (sd_inw sd_lay_ok.2.2.2.2.2.2.2.2.1)) (hts _ (sd_inw sd_lay_ok.2.2.2.2.2.2.2.2.2)) (hs _ sd_f_ok.2.2.2) hA
