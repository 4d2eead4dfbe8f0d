/-! SOUNDNESS, 3: instructions, checked against the bytes -/
def sd_at (wi : Nat) (w : Cond) : Bool := decide (sd_tt wi = some w) && goodWord w
theorem sd_at_in {wi : Nat} {w : Cond} (h : sd_at wi w = true) : w ∈ sd_gw := by
  simp only [sd_at, Bool.and_eq_true, decide_eq_true_eq] at h
  exact List.mem_filter.mpr ⟨sd_tt_in h.1, h.2⟩
def sd_is (cc : ByteArray) (pc : Nat) (i : Instr) (len : Nat) : Bool := decide (decode cc pc = .ok (i, len))
theorem sd_is_eq {cc : ByteArray} {pc : Nat} {i : Instr} {len : Nat} (h : sd_is cc pc i len = true) : decode cc pc = .ok (i, len) := of_decide_eq_true h
/-- a local by its short form or by its number -/
def sd_ln (cc : ByteArray) (pc a len : Nat) (f : Fin 4 → Instr) (k : Nat → Instr) : Bool :=
  (Nat.beq len 2 && sd_is cc pc (k a) 2) || (Nat.beq len 1 && (if h : a < 4 then sd_is cc pc (f ⟨a, h⟩) 1 else false))
theorem sd_ln_eq {cc : ByteArray} {pc a len : Nat} {f : Fin 4 → Instr} {k : Nat → Instr} (h : sd_ln cc pc a len f k = true) : (len = 2 ∧ decode cc pc = .ok (k a, 2)) ∨ (len = 1 ∧ ∃ j : Fin 4, (j : Nat) = a ∧ decode cc pc = .ok (f j, 1)) := by
  simp only [sd_ln, Bool.or_eq_true, Bool.and_eq_true] at h
  rcases h with ⟨h1, h2⟩ | ⟨h1, h2⟩
  · exact Or.inl ⟨Nat.eq_of_beq_eq_true h1, sd_is_eq h2⟩
  · split at h2
    · rename_i h4
      exact Or.inr ⟨Nat.eq_of_beq_eq_true h1, ⟨a, h4⟩, rfl, sd_is_eq h2⟩
    · cases h2
def sd_kc (mi pc a len : Nat) (x : Int32) (tb : List Nat) : Bool := match a with
  | 0 => sd_is (sd_cc mi) pc (.iconst x.toInt) 1 && Nat.beq len 1
  | 1 => sd_is (sd_cc mi) pc (.bipush x.toInt) 2 && (Nat.beq len 2 && decide ((Int8.ofInt x.toInt).toInt32 = x))
  | 2 => sd_is (sd_cc mi) pc (.sipush x.toInt) 3 && (Nat.beq len 3 && decide ((Int16.ofInt x.toInt).toInt32 = x))
  | 3 => sd_is (sd_cc mi) pc (.ldc (tb.getD 0 0)) 2 && (Nat.beq len 2 && sd_at (tb.getD 1 0 + 70) (.constant (sd_y mi).cls (tb.getD 0 0) x))
  | _ => sd_is (sd_cc mi) pc (.ldc_w (tb.getD 0 0)) 3 && (Nat.beq len 3 && sd_at (tb.getD 1 0 + 70) (.constant (sd_y mi).cls (tb.getD 0 0) x))
def sd_k0 (mi pc h a len : Nat) (x : Int32) (tb : List Nat) : Bool := match h with
  | 0 => sd_kc mi pc a len x tb
  | 1 => sd_ln (sd_cc mi) pc a len .iload_n .iload
  | 2 => sd_ln (sd_cc mi) pc a len .aload_n .aload
  | 3 => sd_ln (sd_cc mi) pc a len .istore_n .istore && Nat.blt a (ev_ml mi)
  | 4 => sd_ln (sd_cc mi) pc a len .astore_n .astore && Nat.blt a (ev_ml mi)
  | 5 => sd_is (sd_cc mi) pc (.iinc a x.toInt) 3 && (Nat.beq len 3 && Nat.blt a (ev_ml mi))
  | 6 => sd_is (sd_cc mi) pc .dup 1 && Nat.beq len 1
  | 7 => sd_is (sd_cc mi) pc .dup2 1 && Nat.beq len 1
  | 8 => sd_is (sd_cc mi) pc .pop 1 && Nat.beq len 1
  | 9 => (if h : a < 2 then sd_is (sd_cc mi) pc (.lconst ⟨a, h⟩) 1 else false) && Nat.beq len 1
  | 10 => sd_is (sd_cc mi) pc (.dconst 0) 1 && Nat.beq len 1
  | 11 => sd_ln (sd_cc mi) pc a len .dload_n .dload
  | 12 => sd_ln (sd_cc mi) pc a len .dstore_n .dstore && Nat.blt (a + 1) (ev_ml mi)
  | _ => true
def sd_cx (p : Program) (l : Launch) (R : Room) (s : State) (m : MethodId) (args : Array Value) (meth : Method) (c : Code) (g : sd_G) (mi : Nat) : Prop :=
  p.tables.exec = Jvm.exec ∧ c.code = sd_cc mi ∧ c.maxLocals = ev_ml mi ∧ s.vm.findClass (sd_y mi).cls = some m.cls ∧ (∀ w ∈ sd_gw, w.before args s = true) ∧ sd_X g s s.heap ∧ meth.locks = false ∧ l.stackTraces = false ∧ g.1 ≤ s.heap.size ∧
  (R.frames = ev_fr mi ∧ R.locals = ev_lr mi ∧ R.cells = ev_mc mi ∧ R.slots = ev_ms mi) ∧ ((sd_y mi).name = "<init>" → meth.name = "<init>") ∧ (c.exceptionTable.toList = tableOf (sd_hh mi) ∨ mi = 282)
def sd_K (p : Program) (l : Launch) (e : Env) (R : Room) (s : State) (m : MethodId) (args : Array Value) (below : List Frame) (meth : Method) (c : Code) (Q : State → Prop) (g : sd_G) (mi : Nat) (res : ev_O) (μz : ev_M) (K : ev_K) : Prop :=
  ∀ (pc : Nat) (ls st : List ev_V) (μ : ev_M) (cl sl : Nat) (H : Heap) (locs : List Loc) (vl : Array Slot) (vs : List Value), (cl ≤ ev_mc mi ∧ sl ≤ ev_ms mi) → K pc ls st μ cl sl = some (res, μz) → sd_l g (sd_nn μ) (ev_ml mi) ls vl → sd_s g (sd_nn μ) st vs → va_S (sd_A g) s.heap H locs → sd_R g μ H → W p l e R s m args below meth c H locs cl sl Q (F0 m pc vl vs)
section SD3
variable {p : Program} {l : Launch} {e : Env} {R : Room} {s : State} {m : MethodId} {args : Array Value} {below : List Frame} {meth : Method} {c : Code} {Q : State → Prop} {g : sd_G} {mi : Nat} {res : ev_O} {μz : ev_M} {K : ev_K}
theorem sd_vI {g : sd_G} {n : sd_N} {y : Int32} : sd_v g n (.inl (.inl y)) (.int y) := rfl
theorem sd_vD {g : sd_G} {n : sd_N} {y : UInt64} : sd_v g n (.inr (.inl y)) (.double y) := rfl
theorem sd_g0 (C : sd_cx p l R s m args meth c g mi) (hK : sd_K p l e R s m args below meth c Q g mi res μz K) {pc h a len : Nat} {x : Int32} {tb : List Nat} (hck : sd_k0 mi pc h a len x tb = true) {ls st : List ev_V} {μ : ev_M} {cl sl : Nat} {H : Heap} {locs : List Loc} {vl : Array Slot} {vs : List Value} (hev : ev_g0 h a len x pc ls st μ cl sl K = some (res, μz)) (hl : sd_l g (sd_nn μ) (ev_ml mi) ls vl) (hs : sd_s g (sd_nn μ) st vs) (hS : va_S (sd_A g) s.heap H locs) (hR : sd_R g μ H) (hcs : cl ≤ ev_mc mi ∧ sl ≤ ev_ms mi) : W p l e R s m args below meth c H locs cl sl Q (F0 m pc vl vs) := by
  obtain ⟨hx, hb, hml, hown, hts, -⟩ := C
  unfold ev_g0 at hev
  unfold sd_k0 at hck
  split at hev
  · -- constants
    have e1 : Int32.ofInt x.toInt = x := Int32.ofInt_toInt x
    have hs' : sd_s g (sd_nn μ) (ev_I x :: st) (.int x :: vs) := ⟨rfl, hs⟩
    replace hck : sd_kc mi pc a len x tb = true := hck
    unfold sd_kc at hck
    split at hck
    · simp only [Bool.and_eq_true] at hck
      have el := Nat.eq_of_beq_eq_true hck.2
      subst el
      exact lv_iconst hx hb (sd_is_eq hck.1) e1 (hK _ _ _ _ _ _ _ _ _ _ hcs hev hl hs' hS hR)
    · simp only [Bool.and_eq_true, decide_eq_true_eq] at hck
      have el := Nat.eq_of_beq_eq_true hck.2.1
      subst el
      exact lv_bipush hx hb (sd_is_eq hck.1) hck.2.2 (hK _ _ _ _ _ _ _ _ _ _ hcs hev hl hs' hS hR)
    · simp only [Bool.and_eq_true, decide_eq_true_eq] at hck
      have el := Nat.eq_of_beq_eq_true hck.2.1
      subst el
      exact lv_sipush hx hb (sd_is_eq hck.1) hck.2.2 (hK _ _ _ _ _ _ _ _ _ _ hcs hev hl hs' hS hR)
    · simp only [Bool.and_eq_true] at hck
      have el := Nat.eq_of_beq_eq_true hck.2.1
      subst el
      exact lv_ldc hx hb hown (hts _ (sd_at_in hck.2.2)) (sd_is_eq hck.1) (hK _ _ _ _ _ _ _ _ _ _ hcs hev hl hs' hS hR)
    · simp only [Bool.and_eq_true] at hck
      have el := Nat.eq_of_beq_eq_true hck.2.1
      subst el
      exact lv_ldcw hx hb hown (hts _ (sd_at_in hck.2.2)) (sd_is_eq hck.1) (hK _ _ _ _ _ _ _ _ _ _ hcs hev hl hs' hS hR)
  · split at hev
    · rename_i y hy
      have hv := hl.int hy
      rcases sd_ln_eq hck with ⟨e1, d⟩ | ⟨e1, j, ej, d⟩
      · subst e1
        exact lv_iload hx hb d hv (hK _ _ _ _ _ _ _ _ _ _ hcs hev hl ⟨rfl, hs⟩ hS hR)
      · subst e1
        exact lv_iload_n hx hb d ej hv (hK _ _ _ _ _ _ _ _ _ _ hcs hev hl ⟨rfl, hs⟩ hS hR)
    · cases hev
  · split at hev
    · rename_i r i hy
      cases hr : Nat.beq r 105 with
      | true => rw [hr] at hev; cases hev
      | false =>
        rw [hr] at hev
        obtain ⟨v, e1, hv⟩ := hl.ref hy (fun q => by rw [q] at hr; exact absurd hr (by decide))
        have hcat : v.category = 1 := hv.cat (by show Nat.beq r 105 = false; exact hr) (fun z q => by cases q) (fun z q => by cases q)
        have hvr : v = .null ∨ ∃ q : Nat, v = .ref q := hv.or (fun q => by rw [q] at hr; exact absurd hr (by decide))
        have kk : W p l e R s m args below meth c H locs cl sl Q (F0 m (pc + len) vl (v :: vs)) := hK _ _ _ _ _ _ _ _ _ _ hcs hev hl ⟨hv, hs⟩ hS hR
        rcases sd_ln_eq hck with ⟨e2, d⟩ | ⟨e2, j, ej, d⟩
        · subst e2
          rcases hvr with q | ⟨q, e3⟩
          · subst q
            exact lv_aloadN hx hb d e1 kk
          · subst e3
            exact lv_aload hx hb d e1 kk
        · subst e2
          rcases hvr with q | ⟨q, e3⟩
          · subst q
            exact lv_aload_nN hx hb d ej e1 kk
          · subst e3
            exact lv_aload_n hx hb d ej e1 kk
    · cases hev
  · split at hev
    · rename_i y rest
      obtain ⟨vs', rfl, hs'⟩ := hs.consI
      simp only [Bool.and_eq_true] at hck
      have ha : a < ev_ml mi := Nat.le_of_ble_eq_true hck.2
      cases hsk : ev_sk ls a with
      | false => rw [hsk] at hev; cases hev
      | true =>
        rw [hsk] at hev
        have hh := sd_ps_has hl.1 hl.2.1
        rcases sd_ln_eq hck.1 with ⟨e2, d⟩ | ⟨e2, j, ej, d⟩
        · subst e2
          exact lv_istore hx hb d hh ha rfl (fun ls' h' => hK _ _ _ _ _ _ _ _ _ _ hcs hev (sd_st1 hl hsk sd_vI h') hs' hS hR)
        · subst e2
          exact lv_istore_n hx hb d ej hh ha rfl (fun ls' h' => hK _ _ _ _ _ _ _ _ _ _ hcs hev (sd_st1 hl hsk sd_vI h') hs' hS hR)
    · cases hev
  · split at hev
    · rename_i r i rest
      obtain ⟨v, vs', rfl, hv, hs'⟩ := hs.cons
      simp only [Bool.and_eq_true] at hck
      have ha : a < ev_ml mi := Nat.le_of_ble_eq_true hck.2
      cases hsk : ev_sk ls a with
      | false => rw [hsk] at hev; cases hev
      | true =>
        rw [hsk] at hev
        have hh := sd_ps_has hl.1 hl.2.1
        have hvr : (v = .null ∨ ∃ q : Nat, v = .ref q) ∨ r = 105 := by
          by_cases q5 : r = 105
          · exact Or.inr q5
          · exact Or.inl (hv.or q5)
        cases hr5 : Nat.beq r 105 with
        | true => rw [hr5] at hev; cases hev
        | false =>
          rw [hr5] at hev
          rcases hvr with hvr | q5
          · rcases sd_ln_eq hck.1 with ⟨e2, d⟩ | ⟨e2, j, ej, d⟩
            · subst e2
              rcases hvr with q | ⟨q, e3⟩
              · subst q
                exact lv_astoreN hx hb d hh ha rfl (fun ls' h' => hK _ _ _ _ _ _ _ _ _ _ hcs hev (sd_st1 hl hsk hv h') hs' hS hR)
              · subst e3
                exact lv_astore hx hb d hh ha rfl (fun ls' h' => hK _ _ _ _ _ _ _ _ _ _ hcs hev (sd_st1 hl hsk hv h') hs' hS hR)
            · subst e2
              rcases hvr with q | ⟨q, e3⟩
              · subst q
                exact lv_astore_nN hx hb d ej hh ha rfl (fun ls' h' => hK _ _ _ _ _ _ _ _ _ _ hcs hev (sd_st1 hl hsk hv h') hs' hS hR)
              · subst e3
                exact lv_astore_n hx hb d ej hh ha rfl (fun ls' h' => hK _ _ _ _ _ _ _ _ _ _ hcs hev (sd_st1 hl hsk hv h') hs' hS hR)
          · rw [q5] at hr5; exact absurd hr5 (by decide)
    · cases hev
  · split at hev
    · rename_i y hy
      simp only [Bool.and_eq_true] at hck
      have ha : a < ev_ml mi := Nat.le_of_ble_eq_true hck.2.2
      have el := Nat.eq_of_beq_eq_true hck.2.1
      subst el
      cases hsk : ev_sk ls a with
      | false => rw [hsk] at hev; cases hev
      | true =>
        rw [hsk] at hev
        have hh := sd_ps_has hl.1 hl.2.1
        obtain ⟨k, hk⟩ := List.getElem?_of_mem (sd_ps_mem (hl.int hy))
        exact lv_iinc (v := y + x) hx hb (sd_is_eq hck.1) hh hk (by rw [Int32.ofInt_toInt]) ha rfl (fun ls' h' => hK _ _ _ _ _ _ _ _ _ _ hcs hev (sd_st1 hl hsk sd_vI h') hs hS hR)
    · cases hev
  · simp only [Bool.and_eq_true] at hck
    have el := Nat.eq_of_beq_eq_true hck.2
    subst el
    split at hev
    · obtain ⟨vs', rfl, hs'⟩ := hs.consI
      exact lv_dup hx hb (sd_is_eq hck.1) rfl (hK _ _ _ _ _ _ _ _ _ _ hcs hev hl ⟨rfl, rfl, hs'⟩ hS hR)
    · rename_i r i rest
      obtain ⟨v, vs', rfl, hv, hs'⟩ := hs.cons
      cases hr5 : Nat.beq r 105 with
      | true => rw [hr5] at hev; cases hev
      | false =>
        rw [hr5] at hev
        have hcat : v.category = 1 := hv.cat hr5 (fun z q => by cases q) (fun z q => by cases q)
        exact lv_dup hx hb (sd_is_eq hck.1) hcat (hK _ _ _ _ _ _ _ _ _ _ hcs hev hl ⟨hv, hv, hs'⟩ hS hR)
    · cases hev
  · simp only [Bool.and_eq_true] at hck
    have el := Nat.eq_of_beq_eq_true hck.2
    subst el
    split at hev
    · rename_i y r i rest
      obtain ⟨vs1, rfl, hs1⟩ := hs.consI
      obtain ⟨v, vs', rfl, hv, hs'⟩ := hs1.cons
      cases hr5 : Nat.beq r 105 with
      | true => rw [hr5] at hev; cases hev
      | false =>
        rw [hr5] at hev
        have hcat : v.category = 1 := hv.cat hr5 (fun z q => by cases q) (fun z q => by cases q)
        exact lv_dup2_11 hx hb (sd_is_eq hck.1) rfl hcat (hK _ _ _ _ _ _ _ _ _ _ hcs hev hl ⟨rfl, hv, rfl, hv, hs'⟩ hS hR)
    · rename_i y z rest
      obtain ⟨vs1, rfl, hs1⟩ := hs.consI
      obtain ⟨vs', rfl, hs'⟩ := hs1.consI
      exact lv_dup2_11 hx hb (sd_is_eq hck.1) rfl rfl (hK _ _ _ _ _ _ _ _ _ _ hcs hev hl ⟨rfl, rfl, rfl, rfl, hs'⟩ hS hR)
    · cases hev
  · simp only [Bool.and_eq_true] at hck
    have el := Nat.eq_of_beq_eq_true hck.2
    subst el
    split at hev
    · obtain ⟨vs', rfl, hs'⟩ := hs.consI
      exact lv_pop hx hb (sd_is_eq hck.1) rfl (hK _ _ _ _ _ _ _ _ _ _ hcs hev hl hs' hS hR)
    · rename_i r i rest
      obtain ⟨v, vs', rfl, hv, hs'⟩ := hs.cons
      cases hr5 : Nat.beq r 105 with
      | true => rw [hr5] at hev; cases hev
      | false =>
        rw [hr5] at hev
        have hcat : v.category = 1 := hv.cat hr5 (fun z q => by cases q) (fun z q => by cases q)
        exact lv_pop hx hb (sd_is_eq hck.1) hcat (hK _ _ _ _ _ _ _ _ _ _ hcs hev hl hs' hS hR)
    · cases hev
  · simp only [Bool.and_eq_true] at hck
    have el := Nat.eq_of_beq_eq_true hck.2
    subst el
    have h1 := hck.1
    split at h1
    · exact lv_lconst (v := Int64.ofNat a) hx hb (sd_is_eq h1) rfl (hK _ _ _ _ _ _ _ _ _ _ hcs hev hl ⟨rfl, hs⟩ hS hR)
    · cases h1
  · simp only [Bool.and_eq_true] at hck
    have el := Nat.eq_of_beq_eq_true hck.2
    subst el
    exact lv_dconst0 hx hb (sd_is_eq hck.1) (hK _ _ _ _ _ _ _ _ _ _ hcs hev hl ⟨rfl, hs⟩ hS hR)
  · split at hev
    · rename_i y hy
      have hv := hl.dbl hy
      rcases sd_ln_eq hck with ⟨e1, d⟩ | ⟨e1, j, ej, d⟩
      · subst e1
        exact lv_dload hx hb d hv (hK _ _ _ _ _ _ _ _ _ _ hcs hev hl ⟨rfl, hs⟩ hS hR)
      · subst e1
        exact lv_dload_n hx hb d ej hv (hK _ _ _ _ _ _ _ _ _ _ hcs hev hl ⟨rfl, hs⟩ hS hR)
    · cases hev
  · split at hev
    · rename_i y rest
      obtain ⟨vs', rfl, hs'⟩ := hs.consD
      simp only [Bool.and_eq_true] at hck
      have ha : a + 1 < ev_ml mi := Nat.le_of_ble_eq_true hck.2
      cases hsk : ev_sk ls a with
      | false => rw [hsk] at hev; cases hev
      | true =>
        rw [hsk] at hev
        have hh := sd_ps_has hl.1 hl.2.1
        rcases sd_ln_eq hck.1 with ⟨e2, d⟩ | ⟨e2, j, ej, d⟩
        · subst e2
          exact lv_dstore hx hb d hh ha rfl (fun ls' h' => hK _ _ _ _ _ _ _ _ _ _ hcs hev (sd_st2 hl hsk sd_vD h') hs' hS hR)
        · subst e2
          exact lv_dstore_n hx hb d ej hh ha rfl (fun ls' h' => hK _ _ _ _ _ _ _ _ _ _ hcs hev (sd_st2 hl hsk sd_vD h') hs' hS hR)
    · cases hev
  · cases hev
end SD3
/-! SOUNDNESS, 4: numbers and roads -/
def sd_k1 (mi pc h len : Nat) : Bool := Nat.beq len 1 && (match h with
  | 0 => sd_is (sd_cc mi) pc .iadd 1
  | 1 => sd_is (sd_cc mi) pc .isub 1
  | 2 => sd_is (sd_cc mi) pc .imul 1
  | 3 => sd_is (sd_cc mi) pc .iand 1
  | 4 => sd_is (sd_cc mi) pc .ior 1
  | 5 => sd_is (sd_cc mi) pc .ishl 1
  | 6 => sd_is (sd_cc mi) pc .ishr 1
  | 7 => sd_is (sd_cc mi) pc .iushr 1
  | 8 => sd_is (sd_cc mi) pc .idiv 1
  | 9 => sd_is (sd_cc mi) pc .irem 1
  | _ => true)
def sd_k5 (mi pc h len : Nat) : Bool := Nat.beq len 1 && (match h with
  | 0 => sd_is (sd_cc mi) pc .ineg 1
  | 1 => sd_is (sd_cc mi) pc .i2b 1
  | 2 => sd_is (sd_cc mi) pc .i2c 1
  | 3 => sd_is (sd_cc mi) pc .i2l 1
  | 4 => sd_is (sd_cc mi) pc .i2d 1
  | _ => true)
def sd_k6 (mi pc h len : Nat) : Bool := Nat.beq len 1 && (match h with
  | 0 => sd_is (sd_cc mi) pc .lcmp 1
  | 1 => sd_is (sd_cc mi) pc .ddiv 1
  | 2 => sd_is (sd_cc mi) pc (.dcmp .l) 1
  | _ => true)
def sd_jp (mi pc b : Nat) (f : Int → Instr) : Bool := sd_is (sd_cc mi) pc (f ((b : Int) - (pc : Int))) 3
theorem sd_jp_eq {mi pc b : Nat} {f : Int → Instr} (h : sd_jp mi pc b f = true) : decode (sd_cc mi) pc = .ok (f ((b : Int) - (pc : Int)), 3) := sd_is_eq h
theorem sd_jt (pc b : Nat) : (pc : Int) + ((b : Int) - (pc : Int)) = (b : Int) := by omega
def sd_k2 (mi pc h a b len : Nat) (tb : List Nat) : Bool := match h with
  | 0 => Nat.beq len 3 && sd_jp mi pc b (.ifCond .eq)
  | 1 => Nat.beq len 3 && sd_jp mi pc b (.ifCond .ne)
  | 2 => Nat.beq len 3 && sd_jp mi pc b (.ifCond .lt)
  | 3 => Nat.beq len 3 && sd_jp mi pc b (.ifCond .ge)
  | 4 => Nat.beq len 3 && sd_jp mi pc b (.ifCond .gt)
  | 5 => Nat.beq len 3 && sd_jp mi pc b (.ifCond .le)
  | 6 => Nat.beq len 3 && sd_jp mi pc b (.if_icmp .eq)
  | 7 => Nat.beq len 3 && sd_jp mi pc b (.if_icmp .ne)
  | 8 => Nat.beq len 3 && sd_jp mi pc b (.if_icmp .lt)
  | 9 => Nat.beq len 3 && sd_jp mi pc b (.if_icmp .ge)
  | 10 => Nat.beq len 3 && sd_jp mi pc b (.if_icmp .gt)
  | 11 => Nat.beq len 3 && sd_jp mi pc b (.if_icmp .le)
  | 12 => sd_jp mi pc b .goto
  | 13 => sd_is (sd_cc mi) pc (.tableswitch ((b : Int) - (pc : Int)) (a : Int) ((a : Int) + (tb.length : Int) - 1) (tb.map (fun (t : Nat) => (t : Int) - (pc : Int))).toArray) len && (Nat.blt a 1000 && Nat.blt tb.length 1000)
  | 14 => Nat.beq len 3 && sd_jp mi pc b .ifnull
  | 15 => Nat.beq len 3 && sd_jp mi pc b .ifnonnull
  | _ => true
/-- the table's road, by the place in it -/
theorem sd_sw_in : ∀ (tb : List Nat) (k : Nat) (y : Int32) (f : Nat → ev_T) (z : ev_T), k + tb.length < 2000 → (∃ (j t : Nat), tb[j]? = some t ∧ y = Int32.ofNat (k + j) ∧ ev_sw tb k y f z = f t) ∨ ((∀ j, j < tb.length → y ≠ Int32.ofNat (k + j)) ∧ ev_sw tb k y f z = z)
  | [], k, y, f, z, _ => Or.inr ⟨fun j h => absurd h (Nat.not_lt_zero j), rfl⟩
  | t :: ts, k, y, f, z, hk => by
    unfold ev_sw
    by_cases e : y = Int32.ofNat k
    · rw [if_pos e]
      exact Or.inl ⟨0, t, rfl, e, rfl⟩
    · rw [if_neg e]
      have hk2 : (k + 1) + ts.length < 2000 := by simp only [List.length_cons] at hk; omega
      rcases sd_sw_in ts (k + 1) y f z hk2 with ⟨j, t', h1, h2, h3⟩ | ⟨h1, h2⟩
      · exact Or.inl ⟨j + 1, t', h1, by rw [h2]; congr 1; omega, h3⟩
      · refine Or.inr ⟨fun j hj => ?_, h2⟩
        cases j with
        | zero => exact e
        | succ j =>
          have := h1 j (by simp only [List.length_cons] at hj; omega)
          rw [show k + (j + 1) = k + 1 + j by omega]
          exact this
section SD4
variable {p : Program} {l : Launch} {e : Env} {R : Room} {s : State} {m : MethodId} {args : Array Value} {below : List Frame} {meth : Method} {c : Code} {Q : State → Prop} {g : sd_G} {mi : Nat} {res : ev_O} {μz : ev_M} {K : ev_K}
theorem sd_g1 (C : sd_cx p l R s m args meth c g mi) (hK : sd_K p l e R s m args below meth c Q g mi res μz K) {pc h len : Nat} (hck : sd_k1 mi pc h len = true) {ls st : List ev_V} {μ : ev_M} {cl sl : Nat} {H : Heap} {locs : List Loc} {vl : Array Slot} {vs : List Value} (hev : ev_g1 h len pc ls st μ cl sl K = some (res, μz)) (hl : sd_l g (sd_nn μ) (ev_ml mi) ls vl) (hs : sd_s g (sd_nn μ) st vs) (hS : va_S (sd_A g) s.heap H locs) (hR : sd_R g μ H) (hcs : cl ≤ ev_mc mi ∧ sl ≤ ev_ms mi) : W p l e R s m args below meth c H locs cl sl Q (F0 m pc vl vs) := by
  obtain ⟨hx, hb, hml, hown, hts, -⟩ := C
  unfold ev_g1 at hev
  unfold sd_k1 at hck
  simp only [Bool.and_eq_true] at hck
  obtain ⟨hlen, hck⟩ := hck
  have el := Nat.eq_of_beq_eq_true hlen
  subst el
  split at hev
  · rename_i y x rest
    obtain ⟨vs1, rfl, hs1⟩ := hs.consI
    obtain ⟨vs', rfl, hs'⟩ := hs1.consI
    split at hev
    · exact lv_iadd hx hb (sd_is_eq hck) (hK _ _ _ _ _ _ _ _ _ _ hcs hev hl ⟨rfl, hs'⟩ hS hR)
    · exact lv_isub hx hb (sd_is_eq hck) (hK _ _ _ _ _ _ _ _ _ _ hcs hev hl ⟨rfl, hs'⟩ hS hR)
    · exact lv_imul hx hb (sd_is_eq hck) (hK _ _ _ _ _ _ _ _ _ _ hcs hev hl ⟨rfl, hs'⟩ hS hR)
    · exact lv_iand hx hb (sd_is_eq hck) (hK _ _ _ _ _ _ _ _ _ _ hcs hev hl ⟨rfl, hs'⟩ hS hR)
    · exact lv_ior hx hb (sd_is_eq hck) (hK _ _ _ _ _ _ _ _ _ _ hcs hev hl ⟨rfl, hs'⟩ hS hR)
    · exact lv_ishl hx hb (sd_is_eq hck) (hK _ _ _ _ _ _ _ _ _ _ hcs hev hl ⟨rfl, hs'⟩ hS hR)
    · exact lv_ishr hx hb (sd_is_eq hck) (hK _ _ _ _ _ _ _ _ _ _ hcs hev hl ⟨rfl, hs'⟩ hS hR)
    · exact lv_iushr hx hb (sd_is_eq hck) rfl (hK _ _ _ _ _ _ _ _ _ _ hcs hev hl ⟨rfl, hs'⟩ hS hR)
    · by_cases h0 : y = 0
      · rw [if_pos h0] at hev; cases hev
      · rw [if_neg h0] at hev
        exact lv_idiv hx hb (sd_is_eq hck) h0 (hK _ _ _ _ _ _ _ _ _ _ hcs hev hl ⟨rfl, hs'⟩ hS hR)
    · by_cases h0 : y = 0
      · rw [if_pos h0] at hev; cases hev
      · rw [if_neg h0] at hev
        exact lv_irem hx hb (sd_is_eq hck) h0 (hK _ _ _ _ _ _ _ _ _ _ hcs hev hl ⟨rfl, hs'⟩ hS hR)
    · cases hev
  · cases hev
theorem sd_g5 (C : sd_cx p l R s m args meth c g mi) (hK : sd_K p l e R s m args below meth c Q g mi res μz K) {pc h len : Nat} (hck : sd_k5 mi pc h len = true) {ls st : List ev_V} {μ : ev_M} {cl sl : Nat} {H : Heap} {locs : List Loc} {vl : Array Slot} {vs : List Value} (hev : ev_g5 h len pc ls st μ cl sl K = some (res, μz)) (hl : sd_l g (sd_nn μ) (ev_ml mi) ls vl) (hs : sd_s g (sd_nn μ) st vs) (hS : va_S (sd_A g) s.heap H locs) (hR : sd_R g μ H) (hcs : cl ≤ ev_mc mi ∧ sl ≤ ev_ms mi) : W p l e R s m args below meth c H locs cl sl Q (F0 m pc vl vs) := by
  obtain ⟨hx, hb, hml, hown, hts, -⟩ := C
  unfold ev_g5 at hev
  unfold sd_k5 at hck
  simp only [Bool.and_eq_true] at hck
  obtain ⟨hlen, hck⟩ := hck
  have el := Nat.eq_of_beq_eq_true hlen
  subst el
  split at hev
  · rename_i y rest
    obtain ⟨vs', rfl, hs'⟩ := hs.consI
    split at hev
    · exact lv_ineg hx hb (sd_is_eq hck) (hK _ _ _ _ _ _ _ _ _ _ hcs hev hl ⟨rfl, hs'⟩ hS hR)
    · exact lv_i2b hx hb (sd_is_eq hck) rfl (hK _ _ _ _ _ _ _ _ _ _ hcs hev hl ⟨rfl, hs'⟩ hS hR)
    · exact lv_i2c hx hb (sd_is_eq hck) rfl (hK _ _ _ _ _ _ _ _ _ _ hcs hev hl ⟨rfl, hs'⟩ hS hR)
    · exact lv_i2l hx hb (sd_is_eq hck) rfl (hK _ _ _ _ _ _ _ _ _ _ hcs hev hl ⟨rfl, hs'⟩ hS hR)
    · exact lv_i2d hx hb (sd_is_eq hck) (hK _ _ _ _ _ _ _ _ _ _ hcs hev hl ⟨rfl, hs'⟩ hS hR)
    · cases hev
  · cases hev
theorem sd_g6 (C : sd_cx p l R s m args meth c g mi) (hK : sd_K p l e R s m args below meth c Q g mi res μz K) {pc h len : Nat} (hck : sd_k6 mi pc h len = true) {ls st : List ev_V} {μ : ev_M} {cl sl : Nat} {H : Heap} {locs : List Loc} {vl : Array Slot} {vs : List Value} (hev : ev_g6 h len pc ls st μ cl sl K = some (res, μz)) (hl : sd_l g (sd_nn μ) (ev_ml mi) ls vl) (hs : sd_s g (sd_nn μ) st vs) (hS : va_S (sd_A g) s.heap H locs) (hR : sd_R g μ H) (hcs : cl ≤ ev_mc mi ∧ sl ≤ ev_ms mi) : W p l e R s m args below meth c H locs cl sl Q (F0 m pc vl vs) := by
  obtain ⟨hx, hb, hml, hown, hts, -⟩ := C
  unfold ev_g6 at hev
  unfold sd_k6 at hck
  simp only [Bool.and_eq_true] at hck
  obtain ⟨hlen, hck⟩ := hck
  have el := Nat.eq_of_beq_eq_true hlen
  subst el
  split at hev
  · obtain ⟨vs1, rfl, hs1⟩ := hs.consL
    obtain ⟨vs', rfl, hs'⟩ := hs1.consL
    split at hev
    · exact W.lcmp hx hb (sd_is_eq hck) (hK _ _ _ _ _ _ _ _ _ _ hcs hev hl ⟨rfl, hs'⟩ hS hR)
    · cases hev
  · obtain ⟨vs1, rfl, hs1⟩ := hs.consD
    obtain ⟨vs', rfl, hs'⟩ := hs1.consD
    split at hev
    · split at hev
      · rename_i hn
        exact lv_ddiv hx hb (sd_is_eq hck) hn (hK _ _ _ _ _ _ _ _ _ _ hcs hev hl ⟨rfl, hs'⟩ hS hR)
      · cases hev
    · exact lv_dcmp hx hb (sd_is_eq hck) (hK _ _ _ _ _ _ _ _ _ _ hcs hev hl ⟨rfl, hs'⟩ hS hR)
    · cases hev
  · cases hev
theorem sd_g2 (C : sd_cx p l R s m args meth c g mi) (hK : sd_K p l e R s m args below meth c Q g mi res μz K) {pc h a b len : Nat} {tb : List Nat} (hck : sd_k2 mi pc h a b len tb = true) {ls st : List ev_V} {μ : ev_M} {cl sl : Nat} {H : Heap} {locs : List Loc} {vl : Array Slot} {vs : List Value} (hev : ev_g2 h a b len tb pc ls st μ cl sl K = some (res, μz)) (hl : sd_l g (sd_nn μ) (ev_ml mi) ls vl) (hs : sd_s g (sd_nn μ) st vs) (hS : va_S (sd_A g) s.heap H locs) (hR : sd_R g μ H) (hcs : cl ≤ ev_mc mi ∧ sl ≤ ev_ms mi) : W p l e R s m args below meth c H locs cl sl Q (F0 m pc vl vs) := by
  obtain ⟨hx, hb, hml, hown, hts, -⟩ := C
  have nlt : ∀ {x y : Int32}, ¬ x < y → y ≤ x := fun {x y} q => Int32.not_lt.mp q
  have nle : ∀ {x y : Int32}, ¬ x ≤ y → y < x := fun {x y} q => Int32.not_le.mp q
  have ltn : ∀ {x y : Int32}, x < y → ¬ y ≤ x := fun {x y} q => Int32.not_le.mpr q
  have len' : ∀ {x y : Int32}, x ≤ y → ¬ y < x := fun {x y} q => Int32.not_lt.mpr q
  unfold ev_g2 at hev
  unfold sd_k2 at hck
  split at hev
  iterate 6
    · simp only [Bool.and_eq_true] at hck
      have el := Nat.eq_of_beq_eq_true hck.1
      subst el
      have d := sd_jp_eq hck.2
      split at hev
      · obtain ⟨vs', rfl, hs'⟩ := hs.consI
        first
        | exact lv_if_eq hx hb d (sd_jt pc b) (fun q => by rw [if_pos q] at hev; exact hK _ _ _ _ _ _ _ _ _ _ hcs hev hl hs' hS hR) (fun q => by rw [if_neg q] at hev; exact hK _ _ _ _ _ _ _ _ _ _ hcs hev hl hs' hS hR)
        | exact lv_if_ne hx hb d (sd_jt pc b) (fun q => by rw [if_neg q] at hev; exact hK _ _ _ _ _ _ _ _ _ _ hcs hev hl hs' hS hR) (fun q => by rw [if_pos q] at hev; exact hK _ _ _ _ _ _ _ _ _ _ hcs hev hl hs' hS hR)
        | exact lv_if_lt hx hb d (sd_jt pc b) (fun q => by rw [if_pos q] at hev; exact hK _ _ _ _ _ _ _ _ _ _ hcs hev hl hs' hS hR) (fun q => by rw [if_neg q] at hev; exact hK _ _ _ _ _ _ _ _ _ _ hcs hev hl hs' hS hR)
        | exact lv_if_ge hx hb d (sd_jt pc b) (fun q => by rw [if_neg (len' q)] at hev; exact hK _ _ _ _ _ _ _ _ _ _ hcs hev hl hs' hS hR) (fun q => by rw [if_pos (nle q)] at hev; exact hK _ _ _ _ _ _ _ _ _ _ hcs hev hl hs' hS hR)
        | exact lv_if_gt hx hb d (sd_jt pc b) (fun q => by rw [if_neg (ltn q)] at hev; exact hK _ _ _ _ _ _ _ _ _ _ hcs hev hl hs' hS hR) (fun q => by rw [if_pos (nlt q)] at hev; exact hK _ _ _ _ _ _ _ _ _ _ hcs hev hl hs' hS hR)
        | exact lv_if_le hx hb d (sd_jt pc b) (fun q => by rw [if_pos q] at hev; exact hK _ _ _ _ _ _ _ _ _ _ hcs hev hl hs' hS hR) (fun q => by rw [if_neg q] at hev; exact hK _ _ _ _ _ _ _ _ _ _ hcs hev hl hs' hS hR)
      · cases hev
  iterate 6
    · simp only [Bool.and_eq_true] at hck
      have el := Nat.eq_of_beq_eq_true hck.1
      subst el
      have d := sd_jp_eq hck.2
      split at hev
      · obtain ⟨vs1, rfl, hs1⟩ := hs.consI
        obtain ⟨vs', rfl, hs'⟩ := hs1.consI
        first
        | exact lv_icmp_eq hx hb d (sd_jt pc b) (fun q => by rw [if_pos q] at hev; exact hK _ _ _ _ _ _ _ _ _ _ hcs hev hl hs' hS hR) (fun q => by rw [if_neg q] at hev; exact hK _ _ _ _ _ _ _ _ _ _ hcs hev hl hs' hS hR)
        | exact lv_icmp_ne hx hb d (sd_jt pc b) (fun q => by rw [if_neg q] at hev; exact hK _ _ _ _ _ _ _ _ _ _ hcs hev hl hs' hS hR) (fun q => by rw [if_pos q] at hev; exact hK _ _ _ _ _ _ _ _ _ _ hcs hev hl hs' hS hR)
        | exact lv_icmp_lt hx hb d (sd_jt pc b) (fun q => by rw [if_pos q] at hev; exact hK _ _ _ _ _ _ _ _ _ _ hcs hev hl hs' hS hR) (fun q => by rw [if_neg q] at hev; exact hK _ _ _ _ _ _ _ _ _ _ hcs hev hl hs' hS hR)
        | exact lv_icmp_ge hx hb d (sd_jt pc b) (fun q => by rw [if_neg (len' q)] at hev; exact hK _ _ _ _ _ _ _ _ _ _ hcs hev hl hs' hS hR) (fun q => by rw [if_pos (nle q)] at hev; exact hK _ _ _ _ _ _ _ _ _ _ hcs hev hl hs' hS hR)
        | exact lv_icmp_gt hx hb d (sd_jt pc b) (fun q => by rw [if_neg (ltn q)] at hev; exact hK _ _ _ _ _ _ _ _ _ _ hcs hev hl hs' hS hR) (fun q => by rw [if_pos (nlt q)] at hev; exact hK _ _ _ _ _ _ _ _ _ _ hcs hev hl hs' hS hR)
        | exact lv_icmp_le hx hb d (sd_jt pc b) (fun q => by rw [if_pos q] at hev; exact hK _ _ _ _ _ _ _ _ _ _ hcs hev hl hs' hS hR) (fun q => by rw [if_neg q] at hev; exact hK _ _ _ _ _ _ _ _ _ _ hcs hev hl hs' hS hR)
      · cases hev
  · exact lv_goto hx hb (sd_jp_eq hck) (sd_jt pc b) (hK _ _ _ _ _ _ _ _ _ _ hcs hev hl hs hS hR)
  · simp only [Bool.and_eq_true] at hck
    obtain ⟨hd, ha, hn⟩ := hck
    have ha := Nat.le_of_ble_eq_true ha
    have hn := Nat.le_of_ble_eq_true hn
    split at hev
    · rename_i y rest
      obtain ⟨vs', rfl, hs'⟩ := hs.consI
      have toI : ∀ k : Nat, k < 2000 → (Int32.ofNat k).toInt = (k : Int) := fun k hk => nI_toInt (by omega)
      rcases sd_sw_in tb a y (fun t => K t ls rest μ cl sl) (K b ls rest μ cl sl) (by omega) with ⟨j, t, h1, h2, h3⟩ | ⟨h1, h2⟩
      · rw [h3] at hev
        have hj : j < tb.length := (List.getElem?_eq_some_iff.mp h1).1
        have hy : y.toInt = ((a + j : Nat) : Int) := by rw [h2]; exact toI _ (by omega)
        refine lv_tableIn (off := (t : Int) - (pc : Int)) hx hb (sd_is_eq hd) (by omega) (by omega) ?_ (sd_jt pc t) (hK _ _ _ _ _ _ _ _ _ _ hcs hev hl hs' hS hR)
        rw [show (y.toInt - (a : Int)).toNat = j by omega]
        simp [h1]
      · rw [h2] at hev
        refine lv_tableOut hx hb (sd_is_eq hd) ?_ (sd_jt pc b) (hK _ _ _ _ _ _ _ _ _ _ hcs hev hl hs' hS hR)
        by_cases q1 : y.toInt < (a : Int)
        · exact Or.inl q1
        · refine Or.inr (Classical.byContradiction fun q2 => ?_)
          have hj : (y.toInt - (a : Int)).toNat < tb.length := by omega
          refine h1 _ hj (Int32.toInt_inj.mp ?_)
          rw [toI _ (by omega)]
          omega
    · cases hev
  iterate 2
    · simp only [Bool.and_eq_true] at hck
      have el := Nat.eq_of_beq_eq_true hck.1
      subst el
      have d := sd_jp_eq hck.2
      split at hev
      · rename_i r i rest
        obtain ⟨v, vs', rfl, hv, hs'⟩ := hs.cons
        cases h4 : Nat.blt r 104 with
        | true =>
          have hr : r < 104 := Nat.le_of_ble_eq_true h4
          rw [h4] at hev
          have h2 := hv.kr (sd_kr1 hr)
          subst h2
          first
          | exact lv_ifnull hx hb d (hK _ _ _ _ _ _ _ _ _ _ hcs hev hl hs' hS hR)
          | exact lv_ifnonnull hx hb d (sd_jt pc b) (hK _ _ _ _ _ _ _ _ _ _ hcs hev hl hs' hS hR)
        | false => rw [h4] at hev; cases hev
      · cases hev
  · cases hev
end SD4
