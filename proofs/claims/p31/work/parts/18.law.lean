/-! THE LAW'S RUN OUT OF THE EVALUATOR'S -/
def sd_d0 (L : Nat) (xs : Nat → Int32) : Nat → Nat → Nat → Int32 := fun r _ => if r = 103 then xs else if r = 104 then fun _ => Int32.ofNat L else fun _ => 0
def sd_mu (L : Nat) (xs : Nat → Int32) : ev_M := (1, fun _ _ _ => false, sd_d0 L xs, 0, fun _ => 0, fun _ _ _ => 0, fun _ _ _ => 0)
theorem sd_law {p : Program} {e : Env} {s : State} {m : MethodId} {below : List Frame} {meth : Method} {c : Code} (l : Launch) (hflags : l.flags = flags0) {b L : Nat} {xs : Nat → Int32} (C0 : p.tables.exec = Jvm.exec ∧ c.code = code ∧ meth.sig.returnType = ret ∧ c.maxLocals = 4 ∧ s.vm.findClass "RefreshTraderLaw" = some m.cls ∧ (∀ w ∈ lw_tbl, w.before #[Value.ref b] s = true) ∧ va_X b L xs s s.heap ∧ b < s.heap.size ∧ meth.locks = false ∧ (Jvm.Cond.and given_1 narrow_1).before #[Value.ref b] s = true)
    {Q : State → Prop} (hret : ∀ (pc : Nat) (H : Heap) (vl : Array Slot), decode code pc = .ok (.ireturn, 1) → W p l e room_1 s m #[Value.ref b] below meth c H [] 600086 7301442 Q (F0 m pc vl [.int 1]))
    {μz : ev_M} (hrun : EV (282, 0, [ev_R 103 0], [], 0, 0) (sd_mu L xs) = some (.inl (some (ev_I 1)), μz)) : W p l e room_1 s m #[Value.ref b] below meth c s.heap [] 0 0 Q (entryFrame m ([Value.ref b] : List Value).toArray 4) := by
  obtain ⟨hx, hb, hr, hml, hown, hts, hX, hbl, hlk, hgv⟩ := C0
  obtain ⟨g, g1, g2, g3, g4, hXg⟩ := sd_begin hts hX hbl hgv
  obtain ⟨n, hn⟩ := EV_out hrun
  have htr : l.stackTraces = false := by
    unfold Launch.stackTraces
    rw [hflags]
    decide +kernel
  have nal : ∀ r i, ¬ sd_al (sd_nn (sd_mu L xs)) r i := fun r i ha => by
    have : ev_sq r i + 1 < 1 := ha.2
    omega
  have nla : ∀ r i, ¬ sd_la (sd_nn (sd_mu L xs)) r i := fun r i ha => by
    have : i < 0 := ha.2.2.1
    omega
  have hR : sd_R g (sd_mu L xs) s.heap := by
    refine ⟨fun r i _ ha => absurd ha (nal r i), fun _ => ?_, fun r i k _ ha => absurd ha (nal r i), ?_, ?_, ?_, fun _ => rfl, fun r i ha => absurd ha (nla r i), fun r i k j ha => absurd ha (nla r i)⟩
    · show s.heap.size + 1 = g.1 + (1 + 0)
      rw [g1]
    · rw [g4]; rfl
    · rw [g3]; rfl
    · rw [g1]; exact Nat.le_refl _
  have hcode : code = sd_cc 282 := rfl
  have eml : ev_ml 282 = 4 := by decide +kernel
  have efr : ev_fr 282 = 14 := by decide +kernel
  have elr : ev_lr 282 = 550 := by decide +kernel
  have emc : ev_mc 282 = 600086 := by decide +kernel
  have ems : ev_ms 282 = 7301442 := by decide +kernel
  have ecl : (sd_y 282).cls = "RefreshTraderLaw" := by decide +kernel
  have enm : (sd_y 282).name ≠ "<init>" := by decide +kernel
  have C : sd_cx p l room_1 s m #[Value.ref b] meth c g 282 :=
    ⟨hx, hb.trans hcode, hml.trans eml.symm, by rw [ecl]; exact hown, sd_hts hts, hXg, hlk, htr, by rw [g1]; exact Nat.le_refl _, ⟨efr.symm, elr.symm, emc.symm, ems.symm⟩, fun h => absurd h enm, Or.inr rfl⟩
  have hE : sd_E p l e room_1 s m #[Value.ref b] below meth c Q g 282 (.inl (some (ev_I 1))) μz := by
    refine Or.inr ⟨rfl, ⟨1, rfl⟩, fun y pc vl H locs cl sl hy hd hS hR hc1 hc2 => ?_⟩
    cases hy
    rw [emc] at hc1
    rw [ems] at hc2
    refine W.widen hc1 hc2 ?_
    have k := W.forget (locs := []) (L := locs) (fun q hq => by have := hS.2.2 q hq; rw [← g1]; exact this) (hret pc H vl (hcode ▸ hd))
    rwa [List.nil_append] at k
  have hs : sd_s g (sd_nn (sd_mu L xs)) [ev_R 103 0] [Value.ref b] := by
    refine ⟨⟨⟨fun z => by omega, fun z => by omega, fun z => by omega, fun z => by omega, fun z => by omega⟩, Or.inl ⟨Or.inl (by omega), ?_⟩⟩, trivial⟩
    show Value.ref b = .ref g.2.2.2.2.2.2.1
    rw [g2]
  have hl := sd_entry (g := g) (n := sd_nn (sd_mu L xs)) (nL := 4) (as := [ev_R 103 0]) rfl hs (by decide)
  rw [lg_entry_eq]
  exact (sd_sound htr n).2 p e room_1 s m #[Value.ref b] below meth c Q 282 _ μz (by decide +kernel) (by decide) C hE 0 [ev_R 103 0] [] (sd_mu L xs) 0 0 s.heap [] _ [] ⟨Nat.zero_le _, Nat.zero_le _⟩ hn (by rw [eml]; exact hl) trivial va_S.rf hR
