theorem sd_cm272 : sd_ckm 272 = true := by decide +kernel
theorem sd_lc273_0 : (List.range 50).all (fun k => (ev_code 273 (0 + k)).all (sd_chk 273 (0 + k))) = true := by decide +kernel
theorem sd_lc273_1 : (List.range 50).all (fun k => (ev_code 273 (50 + k)).all (sd_chk 273 (50 + k))) = true := by decide +kernel
theorem sd_lc273_2 : (List.range 50).all (fun k => (ev_code 273 (100 + k)).all (sd_chk 273 (100 + k))) = true := by decide +kernel
theorem sd_lc273_3 : (List.range 50).all (fun k => (ev_code 273 (150 + k)).all (sd_chk 273 (150 + k))) = true := by decide +kernel
theorem sd_lc273_4 : (List.range 50).all (fun k => (ev_code 273 (200 + k)).all (sd_chk 273 (200 + k))) = true := by decide +kernel
theorem sd_lc273_5 : (List.range 50).all (fun k => (ev_code 273 (250 + k)).all (sd_chk 273 (250 + k))) = true := by decide +kernel
theorem sd_lc273_6 : (List.range 50).all (fun k => (ev_code 273 (300 + k)).all (sd_chk 273 (300 + k))) = true := by decide +kernel
theorem sd_lc273_7 : (List.range 50).all (fun k => (ev_code 273 (350 + k)).all (sd_chk 273 (350 + k))) = true := by decide +kernel
theorem sd_lc273_8 : (List.range 50).all (fun k => (ev_code 273 (400 + k)).all (sd_chk 273 (400 + k))) = true := by decide +kernel
theorem sd_lall273 : ∀ j ∈ [0, 50, 100, 150, 200, 250, 300, 350, 400], (List.range 50).all (fun k => (ev_code 273 (j + k)).all (sd_chk 273 (j + k))) = true := List.forall_mem_cons.mpr ⟨sd_lc273_0, List.forall_mem_cons.mpr ⟨sd_lc273_1, List.forall_mem_cons.mpr ⟨sd_lc273_2, List.forall_mem_cons.mpr ⟨sd_lc273_3, List.forall_mem_cons.mpr ⟨sd_lc273_4, List.forall_mem_cons.mpr ⟨sd_lc273_5, List.forall_mem_cons.mpr ⟨sd_lc273_6, List.forall_mem_cons.mpr ⟨sd_lc273_7, List.forall_mem_cons.mpr ⟨sd_lc273_8, fun _ h => nomatch h⟩⟩⟩⟩⟩⟩⟩⟩⟩
theorem sd_lin273 : ∀ j, j < 9 → 50 * j ∈ [0, 50, 100, 150, 200, 250, 300, 350, 400] := by decide +kernel
theorem sd_cm273 : sd_ckm 273 = true := by
  refine List.all_eq_true.mpr fun pc hpc => ?_
  have hpc : pc < 425 := List.mem_range.mp hpc
  have h := List.all_eq_true.mp (sd_lall273 _ (sd_lin273 (pc / 50) (by omega))) (pc % 50) (List.mem_range.mpr (by omega))
  rw [show 50 * (pc / 50) + pc % 50 = pc by omega] at h
  exact h
theorem sd_cm274 : sd_ckm 274 = true := by decide +kernel
theorem sd_cm275 : sd_ckm 275 = true := by decide +kernel
theorem sd_cm276 : sd_ckm 276 = true := by decide +kernel
theorem sd_lc277_0 : (List.range 50).all (fun k => (ev_code 277 (0 + k)).all (sd_chk 277 (0 + k))) = true := by decide +kernel
theorem sd_lc277_1 : (List.range 50).all (fun k => (ev_code 277 (50 + k)).all (sd_chk 277 (50 + k))) = true := by decide +kernel
theorem sd_lc277_2 : (List.range 50).all (fun k => (ev_code 277 (100 + k)).all (sd_chk 277 (100 + k))) = true := by decide +kernel
theorem sd_lc277_3 : (List.range 50).all (fun k => (ev_code 277 (150 + k)).all (sd_chk 277 (150 + k))) = true := by decide +kernel
theorem sd_lc277_4 : (List.range 50).all (fun k => (ev_code 277 (200 + k)).all (sd_chk 277 (200 + k))) = true := by decide +kernel
theorem sd_lc277_5 : (List.range 50).all (fun k => (ev_code 277 (250 + k)).all (sd_chk 277 (250 + k))) = true := by decide +kernel
theorem sd_lc277_6 : (List.range 50).all (fun k => (ev_code 277 (300 + k)).all (sd_chk 277 (300 + k))) = true := by decide +kernel
theorem sd_lc277_7 : (List.range 50).all (fun k => (ev_code 277 (350 + k)).all (sd_chk 277 (350 + k))) = true := by decide +kernel
theorem sd_lc277_8 : (List.range 50).all (fun k => (ev_code 277 (400 + k)).all (sd_chk 277 (400 + k))) = true := by decide +kernel
theorem sd_lc277_9 : (List.range 50).all (fun k => (ev_code 277 (450 + k)).all (sd_chk 277 (450 + k))) = true := by decide +kernel
theorem sd_lc277_10 : (List.range 50).all (fun k => (ev_code 277 (500 + k)).all (sd_chk 277 (500 + k))) = true := by decide +kernel
theorem sd_lc277_11 : (List.range 50).all (fun k => (ev_code 277 (550 + k)).all (sd_chk 277 (550 + k))) = true := by decide +kernel
theorem sd_lall277 : ∀ j ∈ [0, 50, 100, 150, 200, 250, 300, 350, 400, 450, 500, 550], (List.range 50).all (fun k => (ev_code 277 (j + k)).all (sd_chk 277 (j + k))) = true := List.forall_mem_cons.mpr ⟨sd_lc277_0, List.forall_mem_cons.mpr ⟨sd_lc277_1, List.forall_mem_cons.mpr ⟨sd_lc277_2, List.forall_mem_cons.mpr ⟨sd_lc277_3, List.forall_mem_cons.mpr ⟨sd_lc277_4, List.forall_mem_cons.mpr ⟨sd_lc277_5, List.forall_mem_cons.mpr ⟨sd_lc277_6, List.forall_mem_cons.mpr ⟨sd_lc277_7, List.forall_mem_cons.mpr ⟨sd_lc277_8, List.forall_mem_cons.mpr ⟨sd_lc277_9, List.forall_mem_cons.mpr ⟨sd_lc277_10, List.forall_mem_cons.mpr ⟨sd_lc277_11, fun _ h => nomatch h⟩⟩⟩⟩⟩⟩⟩⟩⟩⟩⟩⟩
theorem sd_lin277 : ∀ j, j < 12 → 50 * j ∈ [0, 50, 100, 150, 200, 250, 300, 350, 400, 450, 500, 550] := by decide +kernel
theorem sd_cm277 : sd_ckm 277 = true := by
  refine List.all_eq_true.mpr fun pc hpc => ?_
  have hpc : pc < 556 := List.mem_range.mp hpc
  have h := List.all_eq_true.mp (sd_lall277 _ (sd_lin277 (pc / 50) (by omega))) (pc % 50) (List.mem_range.mpr (by omega))
  rw [show 50 * (pc / 50) + pc % 50 = pc by omega] at h
  exact h
theorem sd_cm278 : sd_ckm 278 = true := by decide +kernel
theorem sd_lc279_0 : (List.range 50).all (fun k => (ev_code 279 (0 + k)).all (sd_chk 279 (0 + k))) = true := by decide +kernel
theorem sd_lc279_1 : (List.range 50).all (fun k => (ev_code 279 (50 + k)).all (sd_chk 279 (50 + k))) = true := by decide +kernel
theorem sd_lc279_2 : (List.range 50).all (fun k => (ev_code 279 (100 + k)).all (sd_chk 279 (100 + k))) = true := by decide +kernel
theorem sd_lc279_3 : (List.range 50).all (fun k => (ev_code 279 (150 + k)).all (sd_chk 279 (150 + k))) = true := by decide +kernel
theorem sd_lc279_4 : (List.range 50).all (fun k => (ev_code 279 (200 + k)).all (sd_chk 279 (200 + k))) = true := by decide +kernel
theorem sd_lc279_5 : (List.range 50).all (fun k => (ev_code 279 (250 + k)).all (sd_chk 279 (250 + k))) = true := by decide +kernel
theorem sd_lc279_6 : (List.range 50).all (fun k => (ev_code 279 (300 + k)).all (sd_chk 279 (300 + k))) = true := by decide +kernel
theorem sd_lc279_7 : (List.range 50).all (fun k => (ev_code 279 (350 + k)).all (sd_chk 279 (350 + k))) = true := by decide +kernel
theorem sd_lc279_8 : (List.range 50).all (fun k => (ev_code 279 (400 + k)).all (sd_chk 279 (400 + k))) = true := by decide +kernel
theorem sd_lc279_9 : (List.range 50).all (fun k => (ev_code 279 (450 + k)).all (sd_chk 279 (450 + k))) = true := by decide +kernel
theorem sd_lc279_10 : (List.range 50).all (fun k => (ev_code 279 (500 + k)).all (sd_chk 279 (500 + k))) = true := by decide +kernel
theorem sd_lc279_11 : (List.range 50).all (fun k => (ev_code 279 (550 + k)).all (sd_chk 279 (550 + k))) = true := by decide +kernel
theorem sd_lc279_12 : (List.range 50).all (fun k => (ev_code 279 (600 + k)).all (sd_chk 279 (600 + k))) = true := by decide +kernel
theorem sd_lc279_13 : (List.range 50).all (fun k => (ev_code 279 (650 + k)).all (sd_chk 279 (650 + k))) = true := by decide +kernel
theorem sd_lc279_14 : (List.range 50).all (fun k => (ev_code 279 (700 + k)).all (sd_chk 279 (700 + k))) = true := by decide +kernel
theorem sd_lc279_15 : (List.range 50).all (fun k => (ev_code 279 (750 + k)).all (sd_chk 279 (750 + k))) = true := by decide +kernel
theorem sd_lc279_16 : (List.range 50).all (fun k => (ev_code 279 (800 + k)).all (sd_chk 279 (800 + k))) = true := by decide +kernel
theorem sd_lc279_17 : (List.range 50).all (fun k => (ev_code 279 (850 + k)).all (sd_chk 279 (850 + k))) = true := by decide +kernel
theorem sd_lall279 : ∀ j ∈ [0, 50, 100, 150, 200, 250, 300, 350, 400, 450, 500, 550, 600, 650, 700, 750, 800, 850], (List.range 50).all (fun k => (ev_code 279 (j + k)).all (sd_chk 279 (j + k))) = true := List.forall_mem_cons.mpr ⟨sd_lc279_0, List.forall_mem_cons.mpr ⟨sd_lc279_1, List.forall_mem_cons.mpr ⟨sd_lc279_2, List.forall_mem_cons.mpr ⟨sd_lc279_3, List.forall_mem_cons.mpr ⟨sd_lc279_4, List.forall_mem_cons.mpr ⟨sd_lc279_5, List.forall_mem_cons.mpr ⟨sd_lc279_6, List.forall_mem_cons.mpr ⟨sd_lc279_7, List.forall_mem_cons.mpr ⟨sd_lc279_8, List.forall_mem_cons.mpr ⟨sd_lc279_9, List.forall_mem_cons.mpr ⟨sd_lc279_10, List.forall_mem_cons.mpr ⟨sd_lc279_11, List.forall_mem_cons.mpr ⟨sd_lc279_12, List.forall_mem_cons.mpr ⟨sd_lc279_13, List.forall_mem_cons.mpr ⟨sd_lc279_14, List.forall_mem_cons.mpr ⟨sd_lc279_15, List.forall_mem_cons.mpr ⟨sd_lc279_16, List.forall_mem_cons.mpr ⟨sd_lc279_17, fun _ h => nomatch h⟩⟩⟩⟩⟩⟩⟩⟩⟩⟩⟩⟩⟩⟩⟩⟩⟩⟩
theorem sd_lin279 : ∀ j, j < 18 → 50 * j ∈ [0, 50, 100, 150, 200, 250, 300, 350, 400, 450, 500, 550, 600, 650, 700, 750, 800, 850] := by decide +kernel
theorem sd_cm279 : sd_ckm 279 = true := by
  refine List.all_eq_true.mpr fun pc hpc => ?_
  have hpc : pc < 860 := List.mem_range.mp hpc
  have h := List.all_eq_true.mp (sd_lall279 _ (sd_lin279 (pc / 50) (by omega))) (pc % 50) (List.mem_range.mpr (by omega))
  rw [show 50 * (pc / 50) + pc % 50 = pc by omega] at h
  exact h
theorem sd_lc280_0 : (List.range 50).all (fun k => (ev_code 280 (0 + k)).all (sd_chk 280 (0 + k))) = true := by decide +kernel
theorem sd_lc280_1 : (List.range 50).all (fun k => (ev_code 280 (50 + k)).all (sd_chk 280 (50 + k))) = true := by decide +kernel
theorem sd_lc280_2 : (List.range 50).all (fun k => (ev_code 280 (100 + k)).all (sd_chk 280 (100 + k))) = true := by decide +kernel
theorem sd_lc280_3 : (List.range 50).all (fun k => (ev_code 280 (150 + k)).all (sd_chk 280 (150 + k))) = true := by decide +kernel
theorem sd_lc280_4 : (List.range 50).all (fun k => (ev_code 280 (200 + k)).all (sd_chk 280 (200 + k))) = true := by decide +kernel
theorem sd_lc280_5 : (List.range 50).all (fun k => (ev_code 280 (250 + k)).all (sd_chk 280 (250 + k))) = true := by decide +kernel
theorem sd_lc280_6 : (List.range 50).all (fun k => (ev_code 280 (300 + k)).all (sd_chk 280 (300 + k))) = true := by decide +kernel
theorem sd_lc280_7 : (List.range 50).all (fun k => (ev_code 280 (350 + k)).all (sd_chk 280 (350 + k))) = true := by decide +kernel
theorem sd_lc280_8 : (List.range 50).all (fun k => (ev_code 280 (400 + k)).all (sd_chk 280 (400 + k))) = true := by decide +kernel
theorem sd_lall280 : ∀ j ∈ [0, 50, 100, 150, 200, 250, 300, 350, 400], (List.range 50).all (fun k => (ev_code 280 (j + k)).all (sd_chk 280 (j + k))) = true := List.forall_mem_cons.mpr ⟨sd_lc280_0, List.forall_mem_cons.mpr ⟨sd_lc280_1, List.forall_mem_cons.mpr ⟨sd_lc280_2, List.forall_mem_cons.mpr ⟨sd_lc280_3, List.forall_mem_cons.mpr ⟨sd_lc280_4, List.forall_mem_cons.mpr ⟨sd_lc280_5, List.forall_mem_cons.mpr ⟨sd_lc280_6, List.forall_mem_cons.mpr ⟨sd_lc280_7, List.forall_mem_cons.mpr ⟨sd_lc280_8, fun _ h => nomatch h⟩⟩⟩⟩⟩⟩⟩⟩⟩
theorem sd_lin280 : ∀ j, j < 9 → 50 * j ∈ [0, 50, 100, 150, 200, 250, 300, 350, 400] := by decide +kernel
theorem sd_cm280 : sd_ckm 280 = true := by
  refine List.all_eq_true.mpr fun pc hpc => ?_
  have hpc : pc < 425 := List.mem_range.mp hpc
  have h := List.all_eq_true.mp (sd_lall280 _ (sd_lin280 (pc / 50) (by omega))) (pc % 50) (List.mem_range.mpr (by omega))
  rw [show 50 * (pc / 50) + pc % 50 = pc by omega] at h
  exact h
theorem sd_lc281_0 : (List.range 50).all (fun k => (ev_code 281 (0 + k)).all (sd_chk 281 (0 + k))) = true := by decide +kernel
theorem sd_lc281_1 : (List.range 50).all (fun k => (ev_code 281 (50 + k)).all (sd_chk 281 (50 + k))) = true := by decide +kernel
theorem sd_lc281_2 : (List.range 50).all (fun k => (ev_code 281 (100 + k)).all (sd_chk 281 (100 + k))) = true := by decide +kernel
theorem sd_lc281_3 : (List.range 50).all (fun k => (ev_code 281 (150 + k)).all (sd_chk 281 (150 + k))) = true := by decide +kernel
theorem sd_lc281_4 : (List.range 50).all (fun k => (ev_code 281 (200 + k)).all (sd_chk 281 (200 + k))) = true := by decide +kernel
theorem sd_lc281_5 : (List.range 50).all (fun k => (ev_code 281 (250 + k)).all (sd_chk 281 (250 + k))) = true := by decide +kernel
theorem sd_lc281_6 : (List.range 50).all (fun k => (ev_code 281 (300 + k)).all (sd_chk 281 (300 + k))) = true := by decide +kernel
theorem sd_lc281_7 : (List.range 50).all (fun k => (ev_code 281 (350 + k)).all (sd_chk 281 (350 + k))) = true := by decide +kernel
theorem sd_lall281 : ∀ j ∈ [0, 50, 100, 150, 200, 250, 300, 350], (List.range 50).all (fun k => (ev_code 281 (j + k)).all (sd_chk 281 (j + k))) = true := List.forall_mem_cons.mpr ⟨sd_lc281_0, List.forall_mem_cons.mpr ⟨sd_lc281_1, List.forall_mem_cons.mpr ⟨sd_lc281_2, List.forall_mem_cons.mpr ⟨sd_lc281_3, List.forall_mem_cons.mpr ⟨sd_lc281_4, List.forall_mem_cons.mpr ⟨sd_lc281_5, List.forall_mem_cons.mpr ⟨sd_lc281_6, List.forall_mem_cons.mpr ⟨sd_lc281_7, fun _ h => nomatch h⟩⟩⟩⟩⟩⟩⟩⟩
theorem sd_lin281 : ∀ j, j < 8 → 50 * j ∈ [0, 50, 100, 150, 200, 250, 300, 350] := by decide +kernel
theorem sd_cm281 : sd_ckm 281 = true := by
  refine List.all_eq_true.mpr fun pc hpc => ?_
  have hpc : pc < 372 := List.mem_range.mp hpc
  have h := List.all_eq_true.mp (sd_lall281 _ (sd_lin281 (pc / 50) (by omega))) (pc % 50) (List.mem_range.mpr (by omega))
  rw [show 50 * (pc / 50) + pc % 50 = pc by omega] at h
  exact h
theorem sd_cm282 : sd_ckm 282 = true := by decide +kernel
