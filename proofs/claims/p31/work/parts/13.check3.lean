theorem sd_cm111 : sd_ckm 111 = true := by decide +kernel
theorem sd_cm115 : sd_ckm 115 = true := by decide +kernel
theorem sd_cm116 : sd_ckm 116 = true := by decide +kernel
theorem sd_cm117 : sd_ckm 117 = true := by decide +kernel
theorem sd_cm119 : sd_ckm 119 = true := by decide +kernel
theorem sd_cm120 : sd_ckm 120 = true := by decide +kernel
theorem sd_cm121 : sd_ckm 121 = true := by decide +kernel
theorem sd_cm122 : sd_ckm 122 = true := by decide +kernel
theorem sd_cm123 : sd_ckm 123 = true := by decide +kernel
theorem sd_cm124 : sd_ckm 124 = true := by decide +kernel
theorem sd_cm125 : sd_ckm 125 = true := by decide +kernel
theorem sd_cm126 : sd_ckm 126 = true := by decide +kernel
theorem sd_cm224 : sd_ckm 224 = true := by decide +kernel
theorem sd_cm225 : sd_ckm 225 = true := by decide +kernel
theorem sd_cm226 : sd_ckm 226 = true := by decide +kernel
theorem sd_cm227 : sd_ckm 227 = true := by decide +kernel
theorem sd_cm228 : sd_ckm 228 = true := by decide +kernel
theorem sd_cm229 : sd_ckm 229 = true := by decide +kernel
theorem sd_cm230 : sd_ckm 230 = true := by decide +kernel
theorem sd_cm231 : sd_ckm 231 = true := by decide +kernel
theorem sd_cm232 : sd_ckm 232 = true := by decide +kernel
theorem sd_cm233 : sd_ckm 233 = true := by decide +kernel
theorem sd_cm234 : sd_ckm 234 = true := by decide +kernel
theorem sd_cm235 : sd_ckm 235 = true := by decide +kernel
theorem sd_cm236 : sd_ckm 236 = true := by decide +kernel
theorem sd_cm237 : sd_ckm 237 = true := by decide +kernel
theorem sd_cm238 : sd_ckm 238 = true := by decide +kernel
theorem sd_cm239 : sd_ckm 239 = true := by decide +kernel
theorem sd_cm240 : sd_ckm 240 = true := by decide +kernel
theorem sd_cm241 : sd_ckm 241 = true := by decide +kernel
theorem sd_cm242 : sd_ckm 242 = true := by decide +kernel
theorem sd_cm243 : sd_ckm 243 = true := by decide +kernel
theorem sd_cm244 : sd_ckm 244 = true := by decide +kernel
theorem sd_cm245 : sd_ckm 245 = true := by decide +kernel
theorem sd_cm246 : sd_ckm 246 = true := by decide +kernel
theorem sd_cm247 : sd_ckm 247 = true := by decide +kernel
theorem sd_cm248 : sd_ckm 248 = true := by decide +kernel
theorem sd_cm249 : sd_ckm 249 = true := by decide +kernel
theorem sd_cm250 : sd_ckm 250 = true := by decide +kernel
theorem sd_cm251 : sd_ckm 251 = true := by decide +kernel
theorem sd_cm252 : sd_ckm 252 = true := by decide +kernel
theorem sd_cm253 : sd_ckm 253 = true := by decide +kernel
theorem sd_cm254 : sd_ckm 254 = true := by decide +kernel
theorem sd_cm255 : sd_ckm 255 = true := by decide +kernel
theorem sd_cm256 : sd_ckm 256 = true := by decide +kernel
theorem sd_cm257 : sd_ckm 257 = true := by decide +kernel
theorem sd_cm258 : sd_ckm 258 = true := by decide +kernel
theorem sd_cm259 : sd_ckm 259 = true := by decide +kernel
theorem sd_cm260 : sd_ckm 260 = true := by decide +kernel
theorem sd_cm261 : sd_ckm 261 = true := by decide +kernel
theorem sd_cm262 : sd_ckm 262 = true := by decide +kernel
theorem sd_cm263 : sd_ckm 263 = true := by decide +kernel
theorem sd_cm264 : sd_ckm 264 = true := by decide +kernel
theorem sd_cm265 : sd_ckm 265 = true := by decide +kernel
theorem sd_cm266 : sd_ckm 266 = true := by decide +kernel
theorem sd_cm267 : sd_ckm 267 = true := by decide +kernel
theorem sd_cm268 : sd_ckm 268 = true := by decide +kernel
theorem sd_cm269 : sd_ckm 269 = true := by decide +kernel
theorem sd_cm270 : sd_ckm 270 = true := by decide +kernel
theorem sd_lc271_0 : (List.range 50).all (fun k => (ev_code 271 (0 + k)).all (sd_chk 271 (0 + k))) = true := by decide +kernel
theorem sd_lc271_1 : (List.range 50).all (fun k => (ev_code 271 (50 + k)).all (sd_chk 271 (50 + k))) = true := by decide +kernel
theorem sd_lc271_2 : (List.range 50).all (fun k => (ev_code 271 (100 + k)).all (sd_chk 271 (100 + k))) = true := by decide +kernel
theorem sd_lc271_3 : (List.range 50).all (fun k => (ev_code 271 (150 + k)).all (sd_chk 271 (150 + k))) = true := by decide +kernel
theorem sd_lc271_4 : (List.range 50).all (fun k => (ev_code 271 (200 + k)).all (sd_chk 271 (200 + k))) = true := by decide +kernel
theorem sd_lc271_5 : (List.range 50).all (fun k => (ev_code 271 (250 + k)).all (sd_chk 271 (250 + k))) = true := by decide +kernel
theorem sd_lc271_6 : (List.range 50).all (fun k => (ev_code 271 (300 + k)).all (sd_chk 271 (300 + k))) = true := by decide +kernel
theorem sd_lc271_7 : (List.range 50).all (fun k => (ev_code 271 (350 + k)).all (sd_chk 271 (350 + k))) = true := by decide +kernel
theorem sd_lc271_8 : (List.range 50).all (fun k => (ev_code 271 (400 + k)).all (sd_chk 271 (400 + k))) = true := by decide +kernel
theorem sd_lc271_9 : (List.range 50).all (fun k => (ev_code 271 (450 + k)).all (sd_chk 271 (450 + k))) = true := by decide +kernel
theorem sd_lc271_10 : (List.range 50).all (fun k => (ev_code 271 (500 + k)).all (sd_chk 271 (500 + k))) = true := by decide +kernel
theorem sd_lall271 : ∀ j ∈ [0, 50, 100, 150, 200, 250, 300, 350, 400, 450, 500], (List.range 50).all (fun k => (ev_code 271 (j + k)).all (sd_chk 271 (j + k))) = true := List.forall_mem_cons.mpr ⟨sd_lc271_0, List.forall_mem_cons.mpr ⟨sd_lc271_1, List.forall_mem_cons.mpr ⟨sd_lc271_2, List.forall_mem_cons.mpr ⟨sd_lc271_3, List.forall_mem_cons.mpr ⟨sd_lc271_4, List.forall_mem_cons.mpr ⟨sd_lc271_5, List.forall_mem_cons.mpr ⟨sd_lc271_6, List.forall_mem_cons.mpr ⟨sd_lc271_7, List.forall_mem_cons.mpr ⟨sd_lc271_8, List.forall_mem_cons.mpr ⟨sd_lc271_9, List.forall_mem_cons.mpr ⟨sd_lc271_10, fun _ h => nomatch h⟩⟩⟩⟩⟩⟩⟩⟩⟩⟩⟩
theorem sd_lin271 : ∀ j, j < 11 → 50 * j ∈ [0, 50, 100, 150, 200, 250, 300, 350, 400, 450, 500] := by decide +kernel
theorem sd_cm271 : sd_ckm 271 = true := by
  refine List.all_eq_true.mpr fun pc hpc => ?_
  have hpc : pc < 524 := List.mem_range.mp hpc
  have h := List.all_eq_true.mp (sd_lall271 _ (sd_lin271 (pc / 50) (by omega))) (pc % 50) (List.mem_range.mpr (by omega))
  rw [show 50 * (pc / 50) + pc % 50 = pc by omega] at h
  exact h
