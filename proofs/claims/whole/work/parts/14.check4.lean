theorem sd_lc0 : (List.range 50).all (fun k => (ev_code 243 (0 + k)).all (sd_chk 243 (0 + k))) = true := by decide +kernel
theorem sd_lc1 : (List.range 50).all (fun k => (ev_code 243 (50 + k)).all (sd_chk 243 (50 + k))) = true := by decide +kernel
theorem sd_lc2 : (List.range 50).all (fun k => (ev_code 243 (100 + k)).all (sd_chk 243 (100 + k))) = true := by decide +kernel
theorem sd_lc3 : (List.range 50).all (fun k => (ev_code 243 (150 + k)).all (sd_chk 243 (150 + k))) = true := by decide +kernel
theorem sd_lc4 : (List.range 50).all (fun k => (ev_code 243 (200 + k)).all (sd_chk 243 (200 + k))) = true := by decide +kernel
theorem sd_lc5 : (List.range 50).all (fun k => (ev_code 243 (250 + k)).all (sd_chk 243 (250 + k))) = true := by decide +kernel
theorem sd_lc6 : (List.range 50).all (fun k => (ev_code 243 (300 + k)).all (sd_chk 243 (300 + k))) = true := by decide +kernel
theorem sd_lc7 : (List.range 50).all (fun k => (ev_code 243 (350 + k)).all (sd_chk 243 (350 + k))) = true := by decide +kernel
theorem sd_lc8 : (List.range 50).all (fun k => (ev_code 243 (400 + k)).all (sd_chk 243 (400 + k))) = true := by decide +kernel
theorem sd_lc9 : (List.range 50).all (fun k => (ev_code 243 (450 + k)).all (sd_chk 243 (450 + k))) = true := by decide +kernel
theorem sd_lc10 : (List.range 50).all (fun k => (ev_code 243 (500 + k)).all (sd_chk 243 (500 + k))) = true := by decide +kernel
theorem sd_lc11 : (List.range 50).all (fun k => (ev_code 243 (550 + k)).all (sd_chk 243 (550 + k))) = true := by decide +kernel
theorem sd_lc12 : (List.range 50).all (fun k => (ev_code 243 (600 + k)).all (sd_chk 243 (600 + k))) = true := by decide +kernel
theorem sd_lc13 : (List.range 50).all (fun k => (ev_code 243 (650 + k)).all (sd_chk 243 (650 + k))) = true := by decide +kernel
theorem sd_lc14 : (List.range 50).all (fun k => (ev_code 243 (700 + k)).all (sd_chk 243 (700 + k))) = true := by decide +kernel
theorem sd_lc15 : (List.range 50).all (fun k => (ev_code 243 (750 + k)).all (sd_chk 243 (750 + k))) = true := by decide +kernel
theorem sd_lc16 : (List.range 50).all (fun k => (ev_code 243 (800 + k)).all (sd_chk 243 (800 + k))) = true := by decide +kernel
theorem sd_lc17 : (List.range 50).all (fun k => (ev_code 243 (850 + k)).all (sd_chk 243 (850 + k))) = true := by decide +kernel
theorem sd_lc18 : (List.range 50).all (fun k => (ev_code 243 (900 + k)).all (sd_chk 243 (900 + k))) = true := by decide +kernel
theorem sd_lc19 : (List.range 50).all (fun k => (ev_code 243 (950 + k)).all (sd_chk 243 (950 + k))) = true := by decide +kernel
theorem sd_lc20 : (List.range 50).all (fun k => (ev_code 243 (1000 + k)).all (sd_chk 243 (1000 + k))) = true := by decide +kernel
theorem sd_lc21 : (List.range 50).all (fun k => (ev_code 243 (1050 + k)).all (sd_chk 243 (1050 + k))) = true := by decide +kernel
theorem sd_lc22 : (List.range 50).all (fun k => (ev_code 243 (1100 + k)).all (sd_chk 243 (1100 + k))) = true := by decide +kernel
theorem sd_lc23 : (List.range 50).all (fun k => (ev_code 243 (1150 + k)).all (sd_chk 243 (1150 + k))) = true := by decide +kernel
theorem sd_lc24 : (List.range 50).all (fun k => (ev_code 243 (1200 + k)).all (sd_chk 243 (1200 + k))) = true := by decide +kernel
theorem sd_lc25 : (List.range 50).all (fun k => (ev_code 243 (1250 + k)).all (sd_chk 243 (1250 + k))) = true := by decide +kernel
theorem sd_lc26 : (List.range 50).all (fun k => (ev_code 243 (1300 + k)).all (sd_chk 243 (1300 + k))) = true := by decide +kernel
theorem sd_lc27 : (List.range 50).all (fun k => (ev_code 243 (1350 + k)).all (sd_chk 243 (1350 + k))) = true := by decide +kernel
theorem sd_lc28 : (List.range 50).all (fun k => (ev_code 243 (1400 + k)).all (sd_chk 243 (1400 + k))) = true := by decide +kernel
theorem sd_lc29 : (List.range 50).all (fun k => (ev_code 243 (1450 + k)).all (sd_chk 243 (1450 + k))) = true := by decide +kernel
theorem sd_lc30 : (List.range 50).all (fun k => (ev_code 243 (1500 + k)).all (sd_chk 243 (1500 + k))) = true := by decide +kernel
theorem sd_lc31 : (List.range 50).all (fun k => (ev_code 243 (1550 + k)).all (sd_chk 243 (1550 + k))) = true := by decide +kernel
theorem sd_lall : ∀ j ∈ [0, 50, 100, 150, 200, 250, 300, 350, 400, 450, 500, 550, 600, 650, 700, 750, 800, 850, 900, 950, 1000, 1050, 1100, 1150, 1200, 1250, 1300, 1350, 1400, 1450, 1500, 1550], (List.range 50).all (fun k => (ev_code 243 (j + k)).all (sd_chk 243 (j + k))) = true := List.forall_mem_cons.mpr ⟨sd_lc0, List.forall_mem_cons.mpr ⟨sd_lc1, List.forall_mem_cons.mpr ⟨sd_lc2, List.forall_mem_cons.mpr ⟨sd_lc3, List.forall_mem_cons.mpr ⟨sd_lc4, List.forall_mem_cons.mpr ⟨sd_lc5, List.forall_mem_cons.mpr ⟨sd_lc6, List.forall_mem_cons.mpr ⟨sd_lc7, List.forall_mem_cons.mpr ⟨sd_lc8, List.forall_mem_cons.mpr ⟨sd_lc9, List.forall_mem_cons.mpr ⟨sd_lc10, List.forall_mem_cons.mpr ⟨sd_lc11, List.forall_mem_cons.mpr ⟨sd_lc12, List.forall_mem_cons.mpr ⟨sd_lc13, List.forall_mem_cons.mpr ⟨sd_lc14, List.forall_mem_cons.mpr ⟨sd_lc15, List.forall_mem_cons.mpr ⟨sd_lc16, List.forall_mem_cons.mpr ⟨sd_lc17, List.forall_mem_cons.mpr ⟨sd_lc18, List.forall_mem_cons.mpr ⟨sd_lc19, List.forall_mem_cons.mpr ⟨sd_lc20, List.forall_mem_cons.mpr ⟨sd_lc21, List.forall_mem_cons.mpr ⟨sd_lc22, List.forall_mem_cons.mpr ⟨sd_lc23, List.forall_mem_cons.mpr ⟨sd_lc24, List.forall_mem_cons.mpr ⟨sd_lc25, List.forall_mem_cons.mpr ⟨sd_lc26, List.forall_mem_cons.mpr ⟨sd_lc27, List.forall_mem_cons.mpr ⟨sd_lc28, List.forall_mem_cons.mpr ⟨sd_lc29, List.forall_mem_cons.mpr ⟨sd_lc30, List.forall_mem_cons.mpr ⟨sd_lc31, fun _ h => nomatch h⟩⟩⟩⟩⟩⟩⟩⟩⟩⟩⟩⟩⟩⟩⟩⟩⟩⟩⟩⟩⟩⟩⟩⟩⟩⟩⟩⟩⟩⟩⟩⟩
theorem sd_lin : ∀ j, j < 32 → 50 * j ∈ [0, 50, 100, 150, 200, 250, 300, 350, 400, 450, 500, 550, 600, 650, 700, 750, 800, 850, 900, 950, 1000, 1050, 1100, 1150, 1200, 1250, 1300, 1350, 1400, 1450, 1500, 1550] := by decide +kernel
theorem sd_cm243 : sd_ckm 243 = true := by
  refine List.all_eq_true.mpr fun pc hpc => ?_
  have hpc : pc < 1600 := List.mem_range.mp hpc
  have h := List.all_eq_true.mp (sd_lall _ (sd_lin (pc / 50) (by omega))) (pc % 50) (List.mem_range.mpr (by omega))
  rw [show 50 * (pc / 50) + pc % 50 = pc by omega] at h
  exact h
