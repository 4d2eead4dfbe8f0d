/-! SOUNDNESS, 10: no code beyond the end -/
theorem sd_tb {α : Type} {pc N k : Nat} {x y : α} (h : N ≤ pc) (hk : Nat.blt k N = true) : (bif Nat.ble pc k then x else y) = y := by
  have hk : k < N := Nat.le_of_ble_eq_true hk
  cases e : Nat.ble pc k with
  | false => rfl
  | true => have := Nat.le_of_ble_eq_true e; omega
theorem sd_tq {α : Type} {pc N k : Nat} {x y : α} (h : N ≤ pc) (hk : Nat.blt k N = true) : (bif Nat.beq pc k then x else y) = y := by
  have hk : k < N := Nat.le_of_ble_eq_true hk
  cases e : Nat.beq pc k with
  | false => rfl
  | true => have := Nat.eq_of_beq_eq_true e; omega
theorem sd_z2 {pc : Nat} (h : 11 ≤ pc) : ev_c2 pc = none := ((sd_tb h rfl).trans ((sd_tb h rfl).trans ((sd_tb h rfl).trans (sd_tq h rfl))))
theorem sd_z3 {pc : Nat} (h : 25 ≤ pc) : ev_c3 pc = none := ((sd_tb h rfl).trans ((sd_tb h rfl).trans ((sd_tb h rfl).trans ((sd_tb h rfl).trans (sd_tq h rfl)))))
theorem sd_z4 {pc : Nat} (h : 15 ≤ pc) : ev_c4 pc = none := ((sd_tb h rfl).trans ((sd_tb h rfl).trans ((sd_tb h rfl).trans (sd_tq h rfl))))
theorem sd_z5 {pc : Nat} (h : 19 ≤ pc) : ev_c5 pc = none := ((sd_tb h rfl).trans ((sd_tb h rfl).trans ((sd_tb h rfl).trans ((sd_tb h rfl).trans (sd_tq h rfl)))))
theorem sd_z6 {pc : Nat} (h : 10 ≤ pc) : ev_c6 pc = none := ((sd_tb h rfl).trans ((sd_tb h rfl).trans ((sd_tb h rfl).trans (sd_tq h rfl))))
theorem sd_z7 {pc : Nat} (h : 15 ≤ pc) : ev_c7 pc = none := ((sd_tb h rfl).trans ((sd_tb h rfl).trans ((sd_tb h rfl).trans ((sd_tb h rfl).trans (sd_tq h rfl)))))
theorem sd_z8 {pc : Nat} (h : 21 ≤ pc) : ev_c8 pc = none := ((sd_tb h rfl).trans ((sd_tb h rfl).trans ((sd_tb h rfl).trans ((sd_tb h rfl).trans (sd_tq h rfl)))))
theorem sd_z9 {pc : Nat} (h : 18 ≤ pc) : ev_c9 pc = none := ((sd_tb h rfl).trans ((sd_tb h rfl).trans ((sd_tb h rfl).trans ((sd_tb h rfl).trans (sd_tq h rfl)))))
theorem sd_z10 {pc : Nat} (h : 54 ≤ pc) : ev_c10 pc = none := ((sd_tb h rfl).trans ((sd_tb h rfl).trans ((sd_tb h rfl).trans ((sd_tb h rfl).trans ((sd_tb h rfl).trans (sd_tq h rfl))))))
theorem sd_z11 {pc : Nat} (h : 57 ≤ pc) : ev_c11 pc = none := ((sd_tb h rfl).trans ((sd_tb h rfl).trans ((sd_tb h rfl).trans ((sd_tb h rfl).trans ((sd_tb h rfl).trans (sd_tq h rfl))))))
theorem sd_z12 {pc : Nat} (h : 78 ≤ pc) : ev_c12 pc = none := ((sd_tb h rfl).trans ((sd_tb h rfl).trans ((sd_tb h rfl).trans ((sd_tb h rfl).trans ((sd_tb h rfl).trans ((sd_tb h rfl).trans (sd_tq h rfl)))))))
theorem sd_z13 {pc : Nat} (h : 41 ≤ pc) : ev_c13 pc = none := ((sd_tb h rfl).trans ((sd_tb h rfl).trans ((sd_tb h rfl).trans ((sd_tb h rfl).trans ((sd_tb h rfl).trans (sd_tq h rfl))))))
theorem sd_z14 {pc : Nat} (h : 6 ≤ pc) : ev_c14 pc = none := ((sd_tb h rfl).trans ((sd_tb h rfl).trans (sd_tq h rfl)))
theorem sd_z15 {pc : Nat} (h : 60 ≤ pc) : ev_c15 pc = none := ((sd_tb h rfl).trans ((sd_tb h rfl).trans ((sd_tb h rfl).trans ((sd_tb h rfl).trans ((sd_tb h rfl).trans ((sd_tb h rfl).trans (sd_tq h rfl)))))))
theorem sd_z17 {pc : Nat} (h : 14 ≤ pc) : ev_c17 pc = none := ((sd_tb h rfl).trans ((sd_tb h rfl).trans ((sd_tb h rfl).trans (sd_tq h rfl))))
theorem sd_z18 {pc : Nat} (h : 47 ≤ pc) : ev_c18 pc = none := ((sd_tb h rfl).trans ((sd_tb h rfl).trans ((sd_tb h rfl).trans ((sd_tb h rfl).trans ((sd_tb h rfl).trans (sd_tq h rfl))))))
theorem sd_z19 {pc : Nat} (h : 28 ≤ pc) : ev_c19 pc = none := ((sd_tb h rfl).trans ((sd_tb h rfl).trans ((sd_tb h rfl).trans ((sd_tb h rfl).trans (sd_tq h rfl)))))
theorem sd_z20 {pc : Nat} (h : 204 ≤ pc) : ev_c20 pc = none := ((sd_tb h rfl).trans ((sd_tb h rfl).trans ((sd_tb h rfl).trans ((sd_tb h rfl).trans ((sd_tb h rfl).trans ((sd_tb h rfl).trans ((sd_tb h rfl).trans (sd_tq h rfl))))))))
theorem sd_z21 {pc : Nat} (h : 65 ≤ pc) : ev_c21 pc = none := ((sd_tb h rfl).trans ((sd_tb h rfl).trans ((sd_tb h rfl).trans ((sd_tb h rfl).trans ((sd_tb h rfl).trans ((sd_tb h rfl).trans (sd_tq h rfl)))))))
theorem sd_z22 {pc : Nat} (h : 38 ≤ pc) : ev_c22 pc = none := ((sd_tb h rfl).trans ((sd_tb h rfl).trans ((sd_tb h rfl).trans ((sd_tb h rfl).trans ((sd_tb h rfl).trans (sd_tq h rfl))))))
theorem sd_z23 {pc : Nat} (h : 54 ≤ pc) : ev_c23 pc = none := ((sd_tb h rfl).trans ((sd_tb h rfl).trans ((sd_tb h rfl).trans ((sd_tb h rfl).trans ((sd_tb h rfl).trans (sd_tq h rfl))))))
theorem sd_z24 {pc : Nat} (h : 25 ≤ pc) : ev_c24 pc = none := ((sd_tb h rfl).trans ((sd_tb h rfl).trans ((sd_tb h rfl).trans ((sd_tb h rfl).trans (sd_tq h rfl)))))
theorem sd_z25 {pc : Nat} (h : 42 ≤ pc) : ev_c25 pc = none := ((sd_tb h rfl).trans ((sd_tb h rfl).trans ((sd_tb h rfl).trans ((sd_tb h rfl).trans ((sd_tb h rfl).trans (sd_tq h rfl))))))
theorem sd_z26 {pc : Nat} (h : 63 ≤ pc) : ev_c26 pc = none := ((sd_tb h rfl).trans ((sd_tb h rfl).trans ((sd_tb h rfl).trans ((sd_tb h rfl).trans ((sd_tb h rfl).trans (sd_tq h rfl))))))
theorem sd_z27 {pc : Nat} (h : 18 ≤ pc) : ev_c27 pc = none := ((sd_tb h rfl).trans ((sd_tb h rfl).trans ((sd_tb h rfl).trans ((sd_tb h rfl).trans (sd_tq h rfl)))))
theorem sd_z28 {pc : Nat} (h : 18 ≤ pc) : ev_c28 pc = none := ((sd_tb h rfl).trans ((sd_tb h rfl).trans ((sd_tb h rfl).trans ((sd_tb h rfl).trans (sd_tq h rfl)))))
theorem sd_z29 {pc : Nat} (h : 39 ≤ pc) : ev_c29 pc = none := ((sd_tb h rfl).trans ((sd_tb h rfl).trans ((sd_tb h rfl).trans ((sd_tb h rfl).trans ((sd_tb h rfl).trans (sd_tq h rfl))))))
theorem sd_z30 {pc : Nat} (h : 46 ≤ pc) : ev_c30 pc = none := ((sd_tb h rfl).trans ((sd_tb h rfl).trans ((sd_tb h rfl).trans ((sd_tb h rfl).trans ((sd_tb h rfl).trans (sd_tq h rfl))))))
theorem sd_z31 {pc : Nat} (h : 73 ≤ pc) : ev_c31 pc = none := ((sd_tb h rfl).trans ((sd_tb h rfl).trans ((sd_tb h rfl).trans ((sd_tb h rfl).trans ((sd_tb h rfl).trans ((sd_tb h rfl).trans (sd_tq h rfl)))))))
theorem sd_z32 {pc : Nat} (h : 54 ≤ pc) : ev_c32 pc = none := ((sd_tb h rfl).trans ((sd_tb h rfl).trans ((sd_tb h rfl).trans ((sd_tb h rfl).trans ((sd_tb h rfl).trans (sd_tq h rfl))))))
theorem sd_z33 {pc : Nat} (h : 18 ≤ pc) : ev_c33 pc = none := ((sd_tb h rfl).trans ((sd_tb h rfl).trans ((sd_tb h rfl).trans ((sd_tb h rfl).trans (sd_tq h rfl)))))
theorem sd_z34 {pc : Nat} (h : 122 ≤ pc) : ev_c34 pc = none := ((sd_tb h rfl).trans ((sd_tb h rfl).trans ((sd_tb h rfl).trans ((sd_tb h rfl).trans ((sd_tb h rfl).trans ((sd_tb h rfl).trans (sd_tq h rfl)))))))
theorem sd_z35 {pc : Nat} (h : 91 ≤ pc) : ev_c35 pc = none := ((sd_tb h rfl).trans ((sd_tb h rfl).trans ((sd_tb h rfl).trans ((sd_tb h rfl).trans ((sd_tb h rfl).trans ((sd_tb h rfl).trans (sd_tq h rfl)))))))
theorem sd_z36 {pc : Nat} (h : 125 ≤ pc) : ev_c36 pc = none := ((sd_tb h rfl).trans ((sd_tb h rfl).trans ((sd_tb h rfl).trans ((sd_tb h rfl).trans ((sd_tb h rfl).trans ((sd_tb h rfl).trans ((sd_tb h rfl).trans (sd_tq h rfl))))))))
theorem sd_z37 {pc : Nat} (h : 111 ≤ pc) : ev_c37 pc = none := ((sd_tb h rfl).trans ((sd_tb h rfl).trans ((sd_tb h rfl).trans ((sd_tb h rfl).trans ((sd_tb h rfl).trans ((sd_tb h rfl).trans (sd_tq h rfl)))))))
theorem sd_z38 {pc : Nat} (h : 26 ≤ pc) : ev_c38 pc = none := ((sd_tb h rfl).trans ((sd_tb h rfl).trans ((sd_tb h rfl).trans ((sd_tb h rfl).trans (sd_tq h rfl)))))
theorem sd_z39 {pc : Nat} (h : 56 ≤ pc) : ev_c39 pc = none := ((sd_tb h rfl).trans ((sd_tb h rfl).trans ((sd_tb h rfl).trans ((sd_tb h rfl).trans ((sd_tb h rfl).trans ((sd_tb h rfl).trans (sd_tq h rfl)))))))
theorem sd_z40 {pc : Nat} (h : 59 ≤ pc) : ev_c40 pc = none := ((sd_tb h rfl).trans ((sd_tb h rfl).trans ((sd_tb h rfl).trans ((sd_tb h rfl).trans ((sd_tb h rfl).trans (sd_tq h rfl))))))
theorem sd_z41 {pc : Nat} (h : 32 ≤ pc) : ev_c41 pc = none := ((sd_tb h rfl).trans ((sd_tb h rfl).trans ((sd_tb h rfl).trans ((sd_tb h rfl).trans (sd_tq h rfl)))))
theorem sd_z42 {pc : Nat} (h : 61 ≤ pc) : ev_c42 pc = none := ((sd_tb h rfl).trans ((sd_tb h rfl).trans ((sd_tb h rfl).trans ((sd_tb h rfl).trans (sd_tq h rfl)))))
theorem sd_z43 {pc : Nat} (h : 53 ≤ pc) : ev_c43 pc = none := ((sd_tb h rfl).trans ((sd_tb h rfl).trans ((sd_tb h rfl).trans ((sd_tb h rfl).trans ((sd_tb h rfl).trans (sd_tq h rfl))))))
theorem sd_z44 {pc : Nat} (h : 11 ≤ pc) : ev_c44 pc = none := ((sd_tb h rfl).trans ((sd_tb h rfl).trans ((sd_tb h rfl).trans (sd_tq h rfl))))
theorem sd_z45 {pc : Nat} (h : 83 ≤ pc) : ev_c45 pc = none := ((sd_tb h rfl).trans ((sd_tb h rfl).trans ((sd_tb h rfl).trans ((sd_tb h rfl).trans ((sd_tb h rfl).trans ((sd_tb h rfl).trans (sd_tq h rfl)))))))
theorem sd_z46 {pc : Nat} (h : 18 ≤ pc) : ev_c46 pc = none := ((sd_tb h rfl).trans ((sd_tb h rfl).trans ((sd_tb h rfl).trans ((sd_tb h rfl).trans (sd_tq h rfl)))))
theorem sd_z47 {pc : Nat} (h : 70 ≤ pc) : ev_c47 pc = none := ((sd_tb h rfl).trans ((sd_tb h rfl).trans ((sd_tb h rfl).trans ((sd_tb h rfl).trans ((sd_tb h rfl).trans ((sd_tb h rfl).trans (sd_tq h rfl)))))))
theorem sd_z48 {pc : Nat} (h : 54 ≤ pc) : ev_c48 pc = none := ((sd_tb h rfl).trans ((sd_tb h rfl).trans ((sd_tb h rfl).trans ((sd_tb h rfl).trans ((sd_tb h rfl).trans (sd_tq h rfl))))))
theorem sd_z49 {pc : Nat} (h : 33 ≤ pc) : ev_c49 pc = none := ((sd_tb h rfl).trans ((sd_tb h rfl).trans ((sd_tb h rfl).trans ((sd_tb h rfl).trans ((sd_tb h rfl).trans (sd_tq h rfl))))))
theorem sd_z50 {pc : Nat} (h : 47 ≤ pc) : ev_c50 pc = none := ((sd_tb h rfl).trans ((sd_tb h rfl).trans ((sd_tb h rfl).trans ((sd_tb h rfl).trans ((sd_tb h rfl).trans (sd_tq h rfl))))))
theorem sd_z51 {pc : Nat} (h : 73 ≤ pc) : ev_c51 pc = none := ((sd_tb h rfl).trans ((sd_tb h rfl).trans ((sd_tb h rfl).trans ((sd_tb h rfl).trans ((sd_tb h rfl).trans ((sd_tb h rfl).trans (sd_tq h rfl)))))))
theorem sd_z52 {pc : Nat} (h : 45 ≤ pc) : ev_c52 pc = none := ((sd_tb h rfl).trans ((sd_tb h rfl).trans ((sd_tb h rfl).trans ((sd_tb h rfl).trans ((sd_tb h rfl).trans (sd_tq h rfl))))))
theorem sd_z53 {pc : Nat} (h : 41 ≤ pc) : ev_c53 pc = none := ((sd_tb h rfl).trans ((sd_tb h rfl).trans ((sd_tb h rfl).trans ((sd_tb h rfl).trans ((sd_tb h rfl).trans (sd_tq h rfl))))))
theorem sd_z54 {pc : Nat} (h : 56 ≤ pc) : ev_c54 pc = none := ((sd_tb h rfl).trans ((sd_tb h rfl).trans ((sd_tb h rfl).trans ((sd_tb h rfl).trans ((sd_tb h rfl).trans (sd_tq h rfl))))))
theorem sd_z55 {pc : Nat} (h : 15 ≤ pc) : ev_c55 pc = none := ((sd_tb h rfl).trans ((sd_tb h rfl).trans ((sd_tb h rfl).trans ((sd_tb h rfl).trans (sd_tq h rfl)))))
theorem sd_z56 {pc : Nat} (h : 50 ≤ pc) : ev_c56 pc = none := ((sd_tb h rfl).trans ((sd_tb h rfl).trans ((sd_tb h rfl).trans ((sd_tb h rfl).trans ((sd_tb h rfl).trans ((sd_tb h rfl).trans (sd_tq h rfl)))))))
theorem sd_z57 {pc : Nat} (h : 46 ≤ pc) : ev_c57 pc = none := ((sd_tb h rfl).trans ((sd_tb h rfl).trans ((sd_tb h rfl).trans ((sd_tb h rfl).trans ((sd_tb h rfl).trans (sd_tq h rfl))))))
theorem sd_z58 {pc : Nat} (h : 21 ≤ pc) : ev_c58 pc = none := ((sd_tb h rfl).trans ((sd_tb h rfl).trans ((sd_tb h rfl).trans ((sd_tb h rfl).trans (sd_tq h rfl)))))
theorem sd_z61 {pc : Nat} (h : 58 ≤ pc) : ev_c61 pc = none := ((sd_tb h rfl).trans ((sd_tb h rfl).trans ((sd_tb h rfl).trans ((sd_tb h rfl).trans ((sd_tb h rfl).trans (sd_tq h rfl))))))
theorem sd_z62 {pc : Nat} (h : 60 ≤ pc) : ev_c62 pc = none := ((sd_tb h rfl).trans ((sd_tb h rfl).trans ((sd_tb h rfl).trans ((sd_tb h rfl).trans ((sd_tb h rfl).trans (sd_tq h rfl))))))
theorem sd_z63 {pc : Nat} (h : 88 ≤ pc) : ev_c63 pc = none := ((sd_tb h rfl).trans ((sd_tb h rfl).trans ((sd_tb h rfl).trans ((sd_tb h rfl).trans ((sd_tb h rfl).trans ((sd_tb h rfl).trans (sd_tq h rfl)))))))
theorem sd_z64 {pc : Nat} (h : 24 ≤ pc) : ev_c64 pc = none := ((sd_tb h rfl).trans ((sd_tb h rfl).trans ((sd_tb h rfl).trans ((sd_tb h rfl).trans (sd_tq h rfl)))))
theorem sd_z65 {pc : Nat} (h : 32 ≤ pc) : ev_c65 pc = none := ((sd_tb h rfl).trans ((sd_tb h rfl).trans ((sd_tb h rfl).trans ((sd_tb h rfl).trans ((sd_tb h rfl).trans (sd_tq h rfl))))))
theorem sd_z66 {pc : Nat} (h : 63 ≤ pc) : ev_c66 pc = none := ((sd_tb h rfl).trans ((sd_tb h rfl).trans ((sd_tb h rfl).trans ((sd_tb h rfl).trans ((sd_tb h rfl).trans ((sd_tb h rfl).trans (sd_tq h rfl)))))))
theorem sd_z67 {pc : Nat} (h : 87 ≤ pc) : ev_c67 pc = none := ((sd_tb h rfl).trans ((sd_tb h rfl).trans ((sd_tb h rfl).trans ((sd_tb h rfl).trans ((sd_tb h rfl).trans ((sd_tb h rfl).trans (sd_tq h rfl)))))))
theorem sd_z68 {pc : Nat} (h : 127 ≤ pc) : ev_c68 pc = none := ((sd_tb h rfl).trans ((sd_tb h rfl).trans ((sd_tb h rfl).trans ((sd_tb h rfl).trans ((sd_tb h rfl).trans ((sd_tb h rfl).trans ((sd_tb h rfl).trans (sd_tq h rfl))))))))
theorem sd_z69 {pc : Nat} (h : 59 ≤ pc) : ev_c69 pc = none := ((sd_tb h rfl).trans ((sd_tb h rfl).trans ((sd_tb h rfl).trans ((sd_tb h rfl).trans ((sd_tb h rfl).trans (sd_tq h rfl))))))
theorem sd_z70 {pc : Nat} (h : 27 ≤ pc) : ev_c70 pc = none := ((sd_tb h rfl).trans ((sd_tb h rfl).trans ((sd_tb h rfl).trans ((sd_tb h rfl).trans ((sd_tb h rfl).trans (sd_tq h rfl))))))
theorem sd_z71 {pc : Nat} (h : 115 ≤ pc) : ev_c71 pc = none := ((sd_tb h rfl).trans ((sd_tb h rfl).trans ((sd_tb h rfl).trans ((sd_tb h rfl).trans ((sd_tb h rfl).trans ((sd_tb h rfl).trans ((sd_tb h rfl).trans (sd_tq h rfl))))))))
theorem sd_z72 {pc : Nat} (h : 44 ≤ pc) : ev_c72 pc = none := ((sd_tb h rfl).trans ((sd_tb h rfl).trans ((sd_tb h rfl).trans ((sd_tb h rfl).trans ((sd_tb h rfl).trans (sd_tq h rfl))))))
theorem sd_z73 {pc : Nat} (h : 76 ≤ pc) : ev_c73 pc = none := ((sd_tb h rfl).trans ((sd_tb h rfl).trans ((sd_tb h rfl).trans ((sd_tb h rfl).trans ((sd_tb h rfl).trans ((sd_tb h rfl).trans (sd_tq h rfl)))))))
theorem sd_z74 {pc : Nat} (h : 57 ≤ pc) : ev_c74 pc = none := ((sd_tb h rfl).trans ((sd_tb h rfl).trans ((sd_tb h rfl).trans ((sd_tb h rfl).trans ((sd_tb h rfl).trans (sd_tq h rfl))))))
theorem sd_z75 {pc : Nat} (h : 65 ≤ pc) : ev_c75 pc = none := ((sd_tb h rfl).trans ((sd_tb h rfl).trans ((sd_tb h rfl).trans ((sd_tb h rfl).trans ((sd_tb h rfl).trans ((sd_tb h rfl).trans (sd_tq h rfl)))))))
theorem sd_z76 {pc : Nat} (h : 120 ≤ pc) : ev_c76 pc = none := ((sd_tb h rfl).trans ((sd_tb h rfl).trans ((sd_tb h rfl).trans ((sd_tb h rfl).trans ((sd_tb h rfl).trans ((sd_tb h rfl).trans ((sd_tb h rfl).trans (sd_tq h rfl))))))))
theorem sd_z77 {pc : Nat} (h : 121 ≤ pc) : ev_c77 pc = none := ((sd_tb h rfl).trans ((sd_tb h rfl).trans ((sd_tb h rfl).trans ((sd_tb h rfl).trans ((sd_tb h rfl).trans ((sd_tb h rfl).trans ((sd_tb h rfl).trans (sd_tq h rfl))))))))
theorem sd_z78 {pc : Nat} (h : 27 ≤ pc) : ev_c78 pc = none := ((sd_tb h rfl).trans ((sd_tb h rfl).trans ((sd_tb h rfl).trans ((sd_tb h rfl).trans (sd_tq h rfl)))))
theorem sd_z79 {pc : Nat} (h : 16 ≤ pc) : ev_c79 pc = none := ((sd_tb h rfl).trans ((sd_tb h rfl).trans ((sd_tb h rfl).trans ((sd_tb h rfl).trans (sd_tq h rfl)))))
theorem sd_z80 {pc : Nat} (h : 89 ≤ pc) : ev_c80 pc = none := ((sd_tb h rfl).trans ((sd_tb h rfl).trans ((sd_tb h rfl).trans ((sd_tb h rfl).trans ((sd_tb h rfl).trans ((sd_tb h rfl).trans (sd_tq h rfl)))))))
theorem sd_z81 {pc : Nat} (h : 67 ≤ pc) : ev_c81 pc = none := ((sd_tb h rfl).trans ((sd_tb h rfl).trans ((sd_tb h rfl).trans ((sd_tb h rfl).trans ((sd_tb h rfl).trans ((sd_tb h rfl).trans (sd_tq h rfl)))))))
theorem sd_z82 {pc : Nat} (h : 96 ≤ pc) : ev_c82 pc = none := ((sd_tb h rfl).trans ((sd_tb h rfl).trans ((sd_tb h rfl).trans ((sd_tb h rfl).trans ((sd_tb h rfl).trans ((sd_tb h rfl).trans (sd_tq h rfl)))))))
theorem sd_z83 {pc : Nat} (h : 115 ≤ pc) : ev_c83 pc = none := ((sd_tb h rfl).trans ((sd_tb h rfl).trans ((sd_tb h rfl).trans ((sd_tb h rfl).trans ((sd_tb h rfl).trans ((sd_tb h rfl).trans ((sd_tb h rfl).trans (sd_tq h rfl))))))))
theorem sd_z84 {pc : Nat} (h : 92 ≤ pc) : ev_c84 pc = none := ((sd_tb h rfl).trans ((sd_tb h rfl).trans ((sd_tb h rfl).trans ((sd_tb h rfl).trans ((sd_tb h rfl).trans ((sd_tb h rfl).trans (sd_tq h rfl)))))))
theorem sd_z85 {pc : Nat} (h : 55 ≤ pc) : ev_c85 pc = none := ((sd_tb h rfl).trans ((sd_tb h rfl).trans ((sd_tb h rfl).trans ((sd_tb h rfl).trans ((sd_tb h rfl).trans (sd_tq h rfl))))))
theorem sd_z86 {pc : Nat} (h : 98 ≤ pc) : ev_c86 pc = none := ((sd_tb h rfl).trans ((sd_tb h rfl).trans ((sd_tb h rfl).trans ((sd_tb h rfl).trans ((sd_tb h rfl).trans ((sd_tb h rfl).trans (sd_tq h rfl)))))))
theorem sd_z87 {pc : Nat} (h : 68 ≤ pc) : ev_c87 pc = none := ((sd_tb h rfl).trans ((sd_tb h rfl).trans ((sd_tb h rfl).trans ((sd_tb h rfl).trans ((sd_tb h rfl).trans ((sd_tb h rfl).trans (sd_tq h rfl)))))))
theorem sd_z88 {pc : Nat} (h : 108 ≤ pc) : ev_c88 pc = none := ((sd_tb h rfl).trans ((sd_tb h rfl).trans ((sd_tb h rfl).trans ((sd_tb h rfl).trans ((sd_tb h rfl).trans ((sd_tb h rfl).trans (sd_tq h rfl)))))))
theorem sd_z90 {pc : Nat} (h : 167 ≤ pc) : ev_c90 pc = none := ((sd_tb h rfl).trans ((sd_tb h rfl).trans ((sd_tb h rfl).trans ((sd_tb h rfl).trans ((sd_tb h rfl).trans ((sd_tb h rfl).trans (sd_tq h rfl)))))))
theorem sd_z91 {pc : Nat} (h : 30 ≤ pc) : ev_c91 pc = none := ((sd_tb h rfl).trans ((sd_tb h rfl).trans ((sd_tb h rfl).trans ((sd_tb h rfl).trans (sd_tq h rfl)))))
theorem sd_z92 {pc : Nat} (h : 183 ≤ pc) : ev_c92 pc = none := ((sd_tb h rfl).trans ((sd_tb h rfl).trans ((sd_tb h rfl).trans ((sd_tb h rfl).trans ((sd_tb h rfl).trans ((sd_tb h rfl).trans ((sd_tb h rfl).trans (sd_tq h rfl))))))))
theorem sd_z93 {pc : Nat} (h : 208 ≤ pc) : ev_c93 pc = none := ((sd_tb h rfl).trans ((sd_tb h rfl).trans ((sd_tb h rfl).trans ((sd_tb h rfl).trans ((sd_tb h rfl).trans ((sd_tb h rfl).trans ((sd_tb h rfl).trans (sd_tq h rfl))))))))
theorem sd_z94 {pc : Nat} (h : 115 ≤ pc) : ev_c94 pc = none := ((sd_tb h rfl).trans ((sd_tb h rfl).trans ((sd_tb h rfl).trans ((sd_tb h rfl).trans ((sd_tb h rfl).trans ((sd_tb h rfl).trans (sd_tq h rfl)))))))
theorem sd_z95 {pc : Nat} (h : 18 ≤ pc) : ev_c95 pc = none := ((sd_tb h rfl).trans ((sd_tb h rfl).trans ((sd_tb h rfl).trans ((sd_tb h rfl).trans (sd_tq h rfl)))))
theorem sd_z96 {pc : Nat} (h : 98 ≤ pc) : ev_c96 pc = none := ((sd_tb h rfl).trans ((sd_tb h rfl).trans ((sd_tb h rfl).trans ((sd_tb h rfl).trans ((sd_tb h rfl).trans ((sd_tb h rfl).trans (sd_tq h rfl)))))))
theorem sd_z97 {pc : Nat} (h : 122 ≤ pc) : ev_c97 pc = none := ((sd_tb h rfl).trans ((sd_tb h rfl).trans ((sd_tb h rfl).trans ((sd_tb h rfl).trans ((sd_tb h rfl).trans ((sd_tb h rfl).trans (sd_tq h rfl)))))))
theorem sd_z98 {pc : Nat} (h : 19 ≤ pc) : ev_c98 pc = none := ((sd_tb h rfl).trans ((sd_tb h rfl).trans ((sd_tb h rfl).trans ((sd_tb h rfl).trans (sd_tq h rfl)))))
theorem sd_z99 {pc : Nat} (h : 29 ≤ pc) : ev_c99 pc = none := ((sd_tb h rfl).trans ((sd_tb h rfl).trans ((sd_tb h rfl).trans ((sd_tb h rfl).trans (sd_tq h rfl)))))
theorem sd_z100 {pc : Nat} (h : 80 ≤ pc) : ev_c100 pc = none := ((sd_tb h rfl).trans ((sd_tb h rfl).trans ((sd_tb h rfl).trans ((sd_tb h rfl).trans ((sd_tb h rfl).trans ((sd_tb h rfl).trans (sd_tq h rfl)))))))
theorem sd_z101 {pc : Nat} (h : 103 ≤ pc) : ev_c101 pc = none := ((sd_tb h rfl).trans ((sd_tb h rfl).trans ((sd_tb h rfl).trans ((sd_tb h rfl).trans ((sd_tb h rfl).trans ((sd_tb h rfl).trans (sd_tq h rfl)))))))
theorem sd_z102 {pc : Nat} (h : 19 ≤ pc) : ev_c102 pc = none := ((sd_tb h rfl).trans ((sd_tb h rfl).trans ((sd_tb h rfl).trans ((sd_tb h rfl).trans (sd_tq h rfl)))))
theorem sd_z103 {pc : Nat} (h : 28 ≤ pc) : ev_c103 pc = none := ((sd_tb h rfl).trans ((sd_tb h rfl).trans ((sd_tb h rfl).trans ((sd_tb h rfl).trans ((sd_tb h rfl).trans (sd_tq h rfl))))))
theorem sd_z104 {pc : Nat} (h : 8 ≤ pc) : ev_c104 pc = none := ((sd_tb h rfl).trans ((sd_tb h rfl).trans (sd_tq h rfl)))
theorem sd_z105 {pc : Nat} (h : 65 ≤ pc) : ev_c105 pc = none := ((sd_tb h rfl).trans ((sd_tb h rfl).trans ((sd_tb h rfl).trans ((sd_tb h rfl).trans ((sd_tb h rfl).trans ((sd_tb h rfl).trans (sd_tq h rfl)))))))
theorem sd_z106 {pc : Nat} (h : 30 ≤ pc) : ev_c106 pc = none := ((sd_tb h rfl).trans ((sd_tb h rfl).trans ((sd_tb h rfl).trans ((sd_tb h rfl).trans (sd_tq h rfl)))))
theorem sd_z107 {pc : Nat} (h : 73 ≤ pc) : ev_c107 pc = none := ((sd_tb h rfl).trans ((sd_tb h rfl).trans ((sd_tb h rfl).trans ((sd_tb h rfl).trans ((sd_tb h rfl).trans (sd_tq h rfl))))))
theorem sd_z108 {pc : Nat} (h : 76 ≤ pc) : ev_c108 pc = none := ((sd_tb h rfl).trans ((sd_tb h rfl).trans ((sd_tb h rfl).trans ((sd_tb h rfl).trans ((sd_tb h rfl).trans ((sd_tb h rfl).trans (sd_tq h rfl)))))))
theorem sd_z109 {pc : Nat} (h : 106 ≤ pc) : ev_c109 pc = none := ((sd_tb h rfl).trans ((sd_tb h rfl).trans ((sd_tb h rfl).trans ((sd_tb h rfl).trans ((sd_tb h rfl).trans ((sd_tb h rfl).trans (sd_tq h rfl)))))))
theorem sd_z110 {pc : Nat} (h : 82 ≤ pc) : ev_c110 pc = none := ((sd_tb h rfl).trans ((sd_tb h rfl).trans ((sd_tb h rfl).trans ((sd_tb h rfl).trans ((sd_tb h rfl).trans ((sd_tb h rfl).trans (sd_tq h rfl)))))))
theorem sd_z111 {pc : Nat} (h : 29 ≤ pc) : ev_c111 pc = none := ((sd_tb h rfl).trans ((sd_tb h rfl).trans ((sd_tb h rfl).trans ((sd_tb h rfl).trans (sd_tq h rfl)))))
theorem sd_z115 {pc : Nat} (h : 23 ≤ pc) : ev_c115 pc = none := ((sd_tb h rfl).trans ((sd_tb h rfl).trans ((sd_tb h rfl).trans (sd_tq h rfl))))
theorem sd_z116 {pc : Nat} (h : 34 ≤ pc) : ev_c116 pc = none := ((sd_tb h rfl).trans ((sd_tb h rfl).trans ((sd_tb h rfl).trans ((sd_tb h rfl).trans (sd_tq h rfl)))))
theorem sd_z117 {pc : Nat} (h : 26 ≤ pc) : ev_c117 pc = none := ((sd_tb h rfl).trans ((sd_tb h rfl).trans ((sd_tb h rfl).trans (sd_tq h rfl))))
theorem sd_z119 {pc : Nat} (h : 24 ≤ pc) : ev_c119 pc = none := ((sd_tb h rfl).trans ((sd_tb h rfl).trans ((sd_tb h rfl).trans (sd_tq h rfl))))
theorem sd_z120 {pc : Nat} (h : 33 ≤ pc) : ev_c120 pc = none := ((sd_tb h rfl).trans ((sd_tb h rfl).trans ((sd_tb h rfl).trans ((sd_tb h rfl).trans ((sd_tb h rfl).trans (sd_tq h rfl))))))
theorem sd_z121 {pc : Nat} (h : 37 ≤ pc) : ev_c121 pc = none := ((sd_tb h rfl).trans ((sd_tb h rfl).trans ((sd_tb h rfl).trans ((sd_tb h rfl).trans ((sd_tb h rfl).trans (sd_tq h rfl))))))
theorem sd_z122 {pc : Nat} (h : 39 ≤ pc) : ev_c122 pc = none := ((sd_tb h rfl).trans ((sd_tb h rfl).trans ((sd_tb h rfl).trans ((sd_tb h rfl).trans ((sd_tb h rfl).trans (sd_tq h rfl))))))
theorem sd_z123 {pc : Nat} (h : 32 ≤ pc) : ev_c123 pc = none := ((sd_tb h rfl).trans ((sd_tb h rfl).trans ((sd_tb h rfl).trans ((sd_tb h rfl).trans (sd_tq h rfl)))))
theorem sd_z124 {pc : Nat} (h : 7 ≤ pc) : ev_c124 pc = none := ((sd_tb h rfl).trans ((sd_tb h rfl).trans ((sd_tb h rfl).trans (sd_tq h rfl))))
theorem sd_z125 {pc : Nat} (h : 37 ≤ pc) : ev_c125 pc = none := ((sd_tb h rfl).trans ((sd_tb h rfl).trans ((sd_tb h rfl).trans ((sd_tb h rfl).trans ((sd_tb h rfl).trans (sd_tq h rfl))))))
theorem sd_z126 {pc : Nat} (h : 15 ≤ pc) : ev_c126 pc = none := ((sd_tb h rfl).trans ((sd_tb h rfl).trans ((sd_tb h rfl).trans ((sd_tb h rfl).trans (sd_tq h rfl)))))
theorem sd_z224 {pc : Nat} (h : 7 ≤ pc) : ev_c224 pc = none := ((sd_tb h rfl).trans ((sd_tb h rfl).trans (sd_tq h rfl)))
theorem sd_z225 {pc : Nat} (h : 39 ≤ pc) : ev_c225 pc = none := ((sd_tb h rfl).trans ((sd_tb h rfl).trans ((sd_tb h rfl).trans ((sd_tb h rfl).trans ((sd_tb h rfl).trans (sd_tq h rfl))))))
theorem sd_z226 {pc : Nat} (h : 8 ≤ pc) : ev_c226 pc = none := ((sd_tb h rfl).trans ((sd_tb h rfl).trans ((sd_tb h rfl).trans (sd_tq h rfl))))
theorem sd_z227 {pc : Nat} (h : 45 ≤ pc) : ev_c227 pc = none := ((sd_tb h rfl).trans ((sd_tb h rfl).trans ((sd_tb h rfl).trans ((sd_tb h rfl).trans ((sd_tb h rfl).trans (sd_tq h rfl))))))
theorem sd_z228 {pc : Nat} (h : 39 ≤ pc) : ev_c228 pc = none := ((sd_tb h rfl).trans ((sd_tb h rfl).trans ((sd_tb h rfl).trans ((sd_tb h rfl).trans ((sd_tb h rfl).trans (sd_tq h rfl))))))
theorem sd_z229 {pc : Nat} (h : 59 ≤ pc) : ev_c229 pc = none := ((sd_tb h rfl).trans ((sd_tb h rfl).trans ((sd_tb h rfl).trans ((sd_tb h rfl).trans ((sd_tb h rfl).trans ((sd_tb h rfl).trans ((sd_tb h rfl).trans ((sd_tb h rfl).trans ((sd_tb h rfl).trans ((sd_tb h rfl).trans (sd_tq h rfl)))))))))))
theorem sd_z230 {pc : Nat} (h : 27 ≤ pc) : ev_c230 pc = none := ((sd_tb h rfl).trans ((sd_tb h rfl).trans ((sd_tb h rfl).trans ((sd_tb h rfl).trans ((sd_tb h rfl).trans (sd_tq h rfl))))))
theorem sd_z231 {pc : Nat} (h : 33 ≤ pc) : ev_c231 pc = none := ((sd_tb h rfl).trans ((sd_tb h rfl).trans ((sd_tb h rfl).trans ((sd_tb h rfl).trans ((sd_tb h rfl).trans (sd_tq h rfl))))))
theorem sd_z232 {pc : Nat} (h : 19 ≤ pc) : ev_c232 pc = none := ((sd_tb h rfl).trans ((sd_tb h rfl).trans ((sd_tb h rfl).trans ((sd_tb h rfl).trans (sd_tq h rfl)))))
theorem sd_z233 {pc : Nat} (h : 19 ≤ pc) : ev_c233 pc = none := ((sd_tb h rfl).trans ((sd_tb h rfl).trans ((sd_tb h rfl).trans ((sd_tb h rfl).trans (sd_tq h rfl)))))
theorem sd_z234 {pc : Nat} (h : 22 ≤ pc) : ev_c234 pc = none := ((sd_tb h rfl).trans ((sd_tb h rfl).trans ((sd_tb h rfl).trans ((sd_tb h rfl).trans (sd_tq h rfl)))))
theorem sd_z235 {pc : Nat} (h : 44 ≤ pc) : ev_c235 pc = none := ((sd_tb h rfl).trans ((sd_tb h rfl).trans ((sd_tb h rfl).trans ((sd_tb h rfl).trans ((sd_tb h rfl).trans (sd_tq h rfl))))))
theorem sd_z236 {pc : Nat} (h : 8 ≤ pc) : ev_c236 pc = none := ((sd_tb h rfl).trans ((sd_tb h rfl).trans ((sd_tb h rfl).trans (sd_tq h rfl))))
theorem sd_z237 {pc : Nat} (h : 55 ≤ pc) : ev_c237 pc = none := ((sd_tb h rfl).trans ((sd_tb h rfl).trans ((sd_tb h rfl).trans ((sd_tb h rfl).trans ((sd_tb h rfl).trans (sd_tq h rfl))))))
theorem sd_z238 {pc : Nat} (h : 47 ≤ pc) : ev_c238 pc = none := ((sd_tb h rfl).trans ((sd_tb h rfl).trans ((sd_tb h rfl).trans ((sd_tb h rfl).trans ((sd_tb h rfl).trans ((sd_tb h rfl).trans (sd_tq h rfl)))))))
theorem sd_z239 {pc : Nat} (h : 121 ≤ pc) : ev_c239 pc = none := ((sd_tb h rfl).trans ((sd_tb h rfl).trans ((sd_tb h rfl).trans ((sd_tb h rfl).trans ((sd_tb h rfl).trans ((sd_tb h rfl).trans ((sd_tb h rfl).trans (sd_tq h rfl))))))))
theorem sd_z240 {pc : Nat} (h : 8 ≤ pc) : ev_c240 pc = none := ((sd_tb h rfl).trans ((sd_tb h rfl).trans ((sd_tb h rfl).trans (sd_tq h rfl))))
theorem sd_z241 {pc : Nat} (h : 77 ≤ pc) : ev_c241 pc = none := ((sd_tb h rfl).trans ((sd_tb h rfl).trans ((sd_tb h rfl).trans ((sd_tb h rfl).trans ((sd_tb h rfl).trans ((sd_tb h rfl).trans (sd_tq h rfl)))))))
theorem sd_z242 {pc : Nat} (h : 13 ≤ pc) : ev_c242 pc = none := ((sd_tb h rfl).trans ((sd_tb h rfl).trans ((sd_tb h rfl).trans (sd_tq h rfl))))
theorem sd_z243 {pc : Nat} (h : 9 ≤ pc) : ev_c243 pc = none := ((sd_tb h rfl).trans ((sd_tb h rfl).trans ((sd_tb h rfl).trans (sd_tq h rfl))))
theorem sd_z244 {pc : Nat} (h : 7 ≤ pc) : ev_c244 pc = none := ((sd_tb h rfl).trans ((sd_tb h rfl).trans ((sd_tb h rfl).trans (sd_tq h rfl))))
theorem sd_z245 {pc : Nat} (h : 98 ≤ pc) : ev_c245 pc = none := ((sd_tb h rfl).trans ((sd_tb h rfl).trans ((sd_tb h rfl).trans ((sd_tb h rfl).trans ((sd_tb h rfl).trans ((sd_tb h rfl).trans (sd_tq h rfl)))))))
theorem sd_z246 {pc : Nat} (h : 5 ≤ pc) : ev_c246 pc = none := ((sd_tb h rfl).trans ((sd_tb h rfl).trans (sd_tq h rfl)))
theorem sd_z247 {pc : Nat} (h : 5 ≤ pc) : ev_c247 pc = none := ((sd_tb h rfl).trans ((sd_tb h rfl).trans (sd_tq h rfl)))
theorem sd_z248 {pc : Nat} (h : 5 ≤ pc) : ev_c248 pc = none := ((sd_tb h rfl).trans ((sd_tb h rfl).trans (sd_tq h rfl)))
theorem sd_z249 {pc : Nat} (h : 25 ≤ pc) : ev_c249 pc = none := ((sd_tb h rfl).trans ((sd_tb h rfl).trans ((sd_tb h rfl).trans ((sd_tb h rfl).trans (sd_tq h rfl)))))
theorem sd_z250 {pc : Nat} (h : 33 ≤ pc) : ev_c250 pc = none := ((sd_tb h rfl).trans ((sd_tb h rfl).trans ((sd_tb h rfl).trans ((sd_tb h rfl).trans ((sd_tb h rfl).trans (sd_tq h rfl))))))
theorem sd_z251 {pc : Nat} (h : 38 ≤ pc) : ev_c251 pc = none := ((sd_tb h rfl).trans ((sd_tb h rfl).trans ((sd_tb h rfl).trans (sd_tq h rfl))))
theorem sd_z252 {pc : Nat} (h : 11 ≤ pc) : ev_c252 pc = none := ((sd_tb h rfl).trans ((sd_tb h rfl).trans ((sd_tb h rfl).trans (sd_tq h rfl))))
theorem sd_z253 {pc : Nat} (h : 15 ≤ pc) : ev_c253 pc = none := ((sd_tb h rfl).trans ((sd_tb h rfl).trans ((sd_tb h rfl).trans (sd_tq h rfl))))
theorem sd_z254 {pc : Nat} (h : 25 ≤ pc) : ev_c254 pc = none := ((sd_tb h rfl).trans ((sd_tb h rfl).trans ((sd_tb h rfl).trans ((sd_tb h rfl).trans (sd_tq h rfl)))))
theorem sd_z255 {pc : Nat} (h : 19 ≤ pc) : ev_c255 pc = none := ((sd_tb h rfl).trans ((sd_tb h rfl).trans ((sd_tb h rfl).trans ((sd_tb h rfl).trans (sd_tq h rfl)))))
theorem sd_z256 {pc : Nat} (h : 15 ≤ pc) : ev_c256 pc = none := ((sd_tb h rfl).trans ((sd_tb h rfl).trans ((sd_tb h rfl).trans ((sd_tb h rfl).trans (sd_tq h rfl)))))
theorem sd_z257 {pc : Nat} (h : 79 ≤ pc) : ev_c257 pc = none := ((sd_tb h rfl).trans ((sd_tb h rfl).trans ((sd_tb h rfl).trans ((sd_tb h rfl).trans ((sd_tb h rfl).trans ((sd_tb h rfl).trans (sd_tq h rfl)))))))
theorem sd_z258 {pc : Nat} (h : 193 ≤ pc) : ev_c258 pc = none := ((sd_tb h rfl).trans ((sd_tb h rfl).trans ((sd_tb h rfl).trans ((sd_tb h rfl).trans ((sd_tb h rfl).trans ((sd_tb h rfl).trans ((sd_tb h rfl).trans (sd_tq h rfl))))))))
theorem sd_z259 {pc : Nat} (h : 36 ≤ pc) : ev_c259 pc = none := ((sd_tb h rfl).trans ((sd_tb h rfl).trans ((sd_tb h rfl).trans ((sd_tb h rfl).trans ((sd_tb h rfl).trans (sd_tq h rfl))))))
theorem sd_z260 {pc : Nat} (h : 145 ≤ pc) : ev_c260 pc = none := ((sd_tb h rfl).trans ((sd_tb h rfl).trans ((sd_tb h rfl).trans ((sd_tb h rfl).trans ((sd_tb h rfl).trans ((sd_tb h rfl).trans ((sd_tb h rfl).trans (sd_tq h rfl))))))))
theorem sd_z261 {pc : Nat} (h : 207 ≤ pc) : ev_c261 pc = none := ((sd_tb h rfl).trans ((sd_tb h rfl).trans ((sd_tb h rfl).trans ((sd_tb h rfl).trans ((sd_tb h rfl).trans ((sd_tb h rfl).trans ((sd_tb h rfl).trans (sd_tq h rfl))))))))
theorem sd_z262 {pc : Nat} (h : 52 ≤ pc) : ev_c262 pc = none := ((sd_tb h rfl).trans ((sd_tb h rfl).trans ((sd_tb h rfl).trans ((sd_tb h rfl).trans ((sd_tb h rfl).trans (sd_tq h rfl))))))
theorem sd_z263 {pc : Nat} (h : 37 ≤ pc) : ev_c263 pc = none := ((sd_tb h rfl).trans ((sd_tb h rfl).trans ((sd_tb h rfl).trans ((sd_tb h rfl).trans ((sd_tb h rfl).trans (sd_tq h rfl))))))
theorem sd_z264 {pc : Nat} (h : 19 ≤ pc) : ev_c264 pc = none := ((sd_tb h rfl).trans ((sd_tb h rfl).trans ((sd_tb h rfl).trans ((sd_tb h rfl).trans (sd_tq h rfl)))))
theorem sd_z265 {pc : Nat} (h : 62 ≤ pc) : ev_c265 pc = none := ((sd_tb h rfl).trans ((sd_tb h rfl).trans ((sd_tb h rfl).trans ((sd_tb h rfl).trans ((sd_tb h rfl).trans ((sd_tb h rfl).trans (sd_tq h rfl)))))))
theorem sd_z266 {pc : Nat} (h : 19 ≤ pc) : ev_c266 pc = none := ((sd_tb h rfl).trans ((sd_tb h rfl).trans ((sd_tb h rfl).trans ((sd_tb h rfl).trans (sd_tq h rfl)))))
theorem sd_z267 {pc : Nat} (h : 37 ≤ pc) : ev_c267 pc = none := ((sd_tb h rfl).trans ((sd_tb h rfl).trans ((sd_tb h rfl).trans ((sd_tb h rfl).trans ((sd_tb h rfl).trans (sd_tq h rfl))))))
theorem sd_z268 {pc : Nat} (h : 113 ≤ pc) : ev_c268 pc = none := ((sd_tb h rfl).trans ((sd_tb h rfl).trans ((sd_tb h rfl).trans ((sd_tb h rfl).trans ((sd_tb h rfl).trans ((sd_tb h rfl).trans (sd_tq h rfl)))))))
theorem sd_z269 {pc : Nat} (h : 27 ≤ pc) : ev_c269 pc = none := ((sd_tb h rfl).trans ((sd_tb h rfl).trans ((sd_tb h rfl).trans ((sd_tb h rfl).trans (sd_tq h rfl)))))
theorem sd_z270 {pc : Nat} (h : 82 ≤ pc) : ev_c270 pc = none := ((sd_tb h rfl).trans ((sd_tb h rfl).trans ((sd_tb h rfl).trans ((sd_tb h rfl).trans ((sd_tb h rfl).trans ((sd_tb h rfl).trans (sd_tq h rfl)))))))
theorem sd_z271x {pc : Nat} (h : 524 ≤ pc) : ev_c271_4 pc = none := ((sd_tb h rfl).trans ((sd_tb h rfl).trans ((sd_tb h rfl).trans ((sd_tb h rfl).trans ((sd_tb h rfl).trans ((sd_tb h rfl).trans (sd_tq h rfl)))))))
theorem sd_z271 {pc : Nat} (h : 524 ≤ pc) : ev_c271 pc = none := ((sd_tb h rfl).trans ((sd_tb h rfl).trans ((sd_tb h rfl).trans (sd_z271x h))))
theorem sd_z272 {pc : Nat} (h : 51 ≤ pc) : ev_c272 pc = none := ((sd_tb h rfl).trans ((sd_tb h rfl).trans ((sd_tb h rfl).trans ((sd_tb h rfl).trans ((sd_tb h rfl).trans ((sd_tb h rfl).trans (sd_tq h rfl)))))))
theorem sd_z273x {pc : Nat} (h : 425 ≤ pc) : ev_c273_4 pc = none := ((sd_tb h rfl).trans ((sd_tb h rfl).trans ((sd_tb h rfl).trans (sd_tq h rfl))))
theorem sd_z273 {pc : Nat} (h : 425 ≤ pc) : ev_c273 pc = none := ((sd_tb h rfl).trans ((sd_tb h rfl).trans ((sd_tb h rfl).trans (sd_z273x h))))
theorem sd_z274 {pc : Nat} (h : 24 ≤ pc) : ev_c274 pc = none := ((sd_tb h rfl).trans ((sd_tb h rfl).trans ((sd_tb h rfl).trans ((sd_tb h rfl).trans (sd_tq h rfl)))))
theorem sd_z275 {pc : Nat} (h : 116 ≤ pc) : ev_c275 pc = none := ((sd_tb h rfl).trans ((sd_tb h rfl).trans ((sd_tb h rfl).trans ((sd_tb h rfl).trans ((sd_tb h rfl).trans ((sd_tb h rfl).trans ((sd_tb h rfl).trans (sd_tq h rfl))))))))
theorem sd_z276 {pc : Nat} (h : 21 ≤ pc) : ev_c276 pc = none := ((sd_tb h rfl).trans ((sd_tb h rfl).trans ((sd_tb h rfl).trans ((sd_tb h rfl).trans ((sd_tb h rfl).trans (sd_tq h rfl))))))
theorem sd_z277x {pc : Nat} (h : 556 ≤ pc) : ev_c277_4 pc = none := ((sd_tb h rfl).trans ((sd_tb h rfl).trans ((sd_tb h rfl).trans ((sd_tb h rfl).trans ((sd_tb h rfl).trans ((sd_tb h rfl).trans (sd_tq h rfl)))))))
theorem sd_z277 {pc : Nat} (h : 556 ≤ pc) : ev_c277 pc = none := ((sd_tb h rfl).trans ((sd_tb h rfl).trans ((sd_tb h rfl).trans (sd_z277x h))))
theorem sd_z278 {pc : Nat} (h : 95 ≤ pc) : ev_c278 pc = none := ((sd_tb h rfl).trans ((sd_tb h rfl).trans ((sd_tb h rfl).trans ((sd_tb h rfl).trans ((sd_tb h rfl).trans ((sd_tb h rfl).trans (sd_tq h rfl)))))))
theorem sd_z279x {pc : Nat} (h : 860 ≤ pc) : ev_c279_7 pc = none := ((sd_tb h rfl).trans ((sd_tb h rfl).trans ((sd_tb h rfl).trans ((sd_tb h rfl).trans ((sd_tb h rfl).trans ((sd_tb h rfl).trans (sd_tq h rfl)))))))
theorem sd_z279 {pc : Nat} (h : 860 ≤ pc) : ev_c279 pc = none := ((sd_tb h rfl).trans ((sd_tb h rfl).trans ((sd_tb h rfl).trans (sd_z279x h))))
theorem sd_z280x {pc : Nat} (h : 425 ≤ pc) : ev_c280_3 pc = none := ((sd_tb h rfl).trans ((sd_tb h rfl).trans ((sd_tb h rfl).trans ((sd_tb h rfl).trans ((sd_tb h rfl).trans ((sd_tb h rfl).trans (sd_tq h rfl)))))))
theorem sd_z280 {pc : Nat} (h : 425 ≤ pc) : ev_c280 pc = none := ((sd_tb h rfl).trans ((sd_tb h rfl).trans (sd_z280x h)))
theorem sd_z281x {pc : Nat} (h : 372 ≤ pc) : ev_c281_3 pc = none := ((sd_tb h rfl).trans ((sd_tb h rfl).trans (sd_tq h rfl)))
theorem sd_z281 {pc : Nat} (h : 372 ≤ pc) : ev_c281 pc = none := ((sd_tb h rfl).trans ((sd_tb h rfl).trans (sd_z281x h)))
theorem sd_z282 {pc : Nat} (h : 49 ≤ pc) : ev_c282 pc = none := ((sd_tb h rfl).trans ((sd_tb h rfl).trans ((sd_tb h rfl).trans ((sd_tb h rfl).trans ((sd_tb h rfl).trans (sd_tq h rfl))))))
theorem sd_zl0 : ∀ m ∈ [2, 3, 4, 5, 6, 7, 8, 9, 10, 11, 12, 13, 14, 15, 17, 18], ∀ pc, sd_sz m ≤ pc → ev_code m pc = none := List.forall_mem_cons.mpr ⟨fun pc h => sd_z2 h, List.forall_mem_cons.mpr ⟨fun pc h => sd_z3 h, List.forall_mem_cons.mpr ⟨fun pc h => sd_z4 h, List.forall_mem_cons.mpr ⟨fun pc h => sd_z5 h, List.forall_mem_cons.mpr ⟨fun pc h => sd_z6 h, List.forall_mem_cons.mpr ⟨fun pc h => sd_z7 h, List.forall_mem_cons.mpr ⟨fun pc h => sd_z8 h, List.forall_mem_cons.mpr ⟨fun pc h => sd_z9 h, List.forall_mem_cons.mpr ⟨fun pc h => sd_z10 h, List.forall_mem_cons.mpr ⟨fun pc h => sd_z11 h, List.forall_mem_cons.mpr ⟨fun pc h => sd_z12 h, List.forall_mem_cons.mpr ⟨fun pc h => sd_z13 h, List.forall_mem_cons.mpr ⟨fun pc h => sd_z14 h, List.forall_mem_cons.mpr ⟨fun pc h => sd_z15 h, List.forall_mem_cons.mpr ⟨fun pc h => sd_z17 h, List.forall_mem_cons.mpr ⟨fun pc h => sd_z18 h, fun _ h => nomatch h⟩⟩⟩⟩⟩⟩⟩⟩⟩⟩⟩⟩⟩⟩⟩⟩
theorem sd_zl1 : ∀ m ∈ [19, 20, 21, 22, 23, 24, 25, 26, 27, 28, 29, 30, 31, 32, 33, 34], ∀ pc, sd_sz m ≤ pc → ev_code m pc = none := List.forall_mem_cons.mpr ⟨fun pc h => sd_z19 h, List.forall_mem_cons.mpr ⟨fun pc h => sd_z20 h, List.forall_mem_cons.mpr ⟨fun pc h => sd_z21 h, List.forall_mem_cons.mpr ⟨fun pc h => sd_z22 h, List.forall_mem_cons.mpr ⟨fun pc h => sd_z23 h, List.forall_mem_cons.mpr ⟨fun pc h => sd_z24 h, List.forall_mem_cons.mpr ⟨fun pc h => sd_z25 h, List.forall_mem_cons.mpr ⟨fun pc h => sd_z26 h, List.forall_mem_cons.mpr ⟨fun pc h => sd_z27 h, List.forall_mem_cons.mpr ⟨fun pc h => sd_z28 h, List.forall_mem_cons.mpr ⟨fun pc h => sd_z29 h, List.forall_mem_cons.mpr ⟨fun pc h => sd_z30 h, List.forall_mem_cons.mpr ⟨fun pc h => sd_z31 h, List.forall_mem_cons.mpr ⟨fun pc h => sd_z32 h, List.forall_mem_cons.mpr ⟨fun pc h => sd_z33 h, List.forall_mem_cons.mpr ⟨fun pc h => sd_z34 h, fun _ h => nomatch h⟩⟩⟩⟩⟩⟩⟩⟩⟩⟩⟩⟩⟩⟩⟩⟩
theorem sd_zl2 : ∀ m ∈ [35, 36, 37, 38, 39, 40, 41, 42, 43, 44, 45, 46, 47, 48, 49, 50], ∀ pc, sd_sz m ≤ pc → ev_code m pc = none := List.forall_mem_cons.mpr ⟨fun pc h => sd_z35 h, List.forall_mem_cons.mpr ⟨fun pc h => sd_z36 h, List.forall_mem_cons.mpr ⟨fun pc h => sd_z37 h, List.forall_mem_cons.mpr ⟨fun pc h => sd_z38 h, List.forall_mem_cons.mpr ⟨fun pc h => sd_z39 h, List.forall_mem_cons.mpr ⟨fun pc h => sd_z40 h, List.forall_mem_cons.mpr ⟨fun pc h => sd_z41 h, List.forall_mem_cons.mpr ⟨fun pc h => sd_z42 h, List.forall_mem_cons.mpr ⟨fun pc h => sd_z43 h, List.forall_mem_cons.mpr ⟨fun pc h => sd_z44 h, List.forall_mem_cons.mpr ⟨fun pc h => sd_z45 h, List.forall_mem_cons.mpr ⟨fun pc h => sd_z46 h, List.forall_mem_cons.mpr ⟨fun pc h => sd_z47 h, List.forall_mem_cons.mpr ⟨fun pc h => sd_z48 h, List.forall_mem_cons.mpr ⟨fun pc h => sd_z49 h, List.forall_mem_cons.mpr ⟨fun pc h => sd_z50 h, fun _ h => nomatch h⟩⟩⟩⟩⟩⟩⟩⟩⟩⟩⟩⟩⟩⟩⟩⟩
theorem sd_zl3 : ∀ m ∈ [51, 52, 53, 54, 55, 56, 57, 58, 61, 62, 63, 64, 65, 66, 67, 68], ∀ pc, sd_sz m ≤ pc → ev_code m pc = none := List.forall_mem_cons.mpr ⟨fun pc h => sd_z51 h, List.forall_mem_cons.mpr ⟨fun pc h => sd_z52 h, List.forall_mem_cons.mpr ⟨fun pc h => sd_z53 h, List.forall_mem_cons.mpr ⟨fun pc h => sd_z54 h, List.forall_mem_cons.mpr ⟨fun pc h => sd_z55 h, List.forall_mem_cons.mpr ⟨fun pc h => sd_z56 h, List.forall_mem_cons.mpr ⟨fun pc h => sd_z57 h, List.forall_mem_cons.mpr ⟨fun pc h => sd_z58 h, List.forall_mem_cons.mpr ⟨fun pc h => sd_z61 h, List.forall_mem_cons.mpr ⟨fun pc h => sd_z62 h, List.forall_mem_cons.mpr ⟨fun pc h => sd_z63 h, List.forall_mem_cons.mpr ⟨fun pc h => sd_z64 h, List.forall_mem_cons.mpr ⟨fun pc h => sd_z65 h, List.forall_mem_cons.mpr ⟨fun pc h => sd_z66 h, List.forall_mem_cons.mpr ⟨fun pc h => sd_z67 h, List.forall_mem_cons.mpr ⟨fun pc h => sd_z68 h, fun _ h => nomatch h⟩⟩⟩⟩⟩⟩⟩⟩⟩⟩⟩⟩⟩⟩⟩⟩
theorem sd_zl4 : ∀ m ∈ [69, 70, 71, 72, 73, 74, 75, 76, 77, 78, 79, 80, 81, 82, 83, 84], ∀ pc, sd_sz m ≤ pc → ev_code m pc = none := List.forall_mem_cons.mpr ⟨fun pc h => sd_z69 h, List.forall_mem_cons.mpr ⟨fun pc h => sd_z70 h, List.forall_mem_cons.mpr ⟨fun pc h => sd_z71 h, List.forall_mem_cons.mpr ⟨fun pc h => sd_z72 h, List.forall_mem_cons.mpr ⟨fun pc h => sd_z73 h, List.forall_mem_cons.mpr ⟨fun pc h => sd_z74 h, List.forall_mem_cons.mpr ⟨fun pc h => sd_z75 h, List.forall_mem_cons.mpr ⟨fun pc h => sd_z76 h, List.forall_mem_cons.mpr ⟨fun pc h => sd_z77 h, List.forall_mem_cons.mpr ⟨fun pc h => sd_z78 h, List.forall_mem_cons.mpr ⟨fun pc h => sd_z79 h, List.forall_mem_cons.mpr ⟨fun pc h => sd_z80 h, List.forall_mem_cons.mpr ⟨fun pc h => sd_z81 h, List.forall_mem_cons.mpr ⟨fun pc h => sd_z82 h, List.forall_mem_cons.mpr ⟨fun pc h => sd_z83 h, List.forall_mem_cons.mpr ⟨fun pc h => sd_z84 h, fun _ h => nomatch h⟩⟩⟩⟩⟩⟩⟩⟩⟩⟩⟩⟩⟩⟩⟩⟩
theorem sd_zl5 : ∀ m ∈ [85, 86, 87, 88, 90, 91, 92, 93, 94, 95, 96, 97, 98, 99, 100, 101], ∀ pc, sd_sz m ≤ pc → ev_code m pc = none := List.forall_mem_cons.mpr ⟨fun pc h => sd_z85 h, List.forall_mem_cons.mpr ⟨fun pc h => sd_z86 h, List.forall_mem_cons.mpr ⟨fun pc h => sd_z87 h, List.forall_mem_cons.mpr ⟨fun pc h => sd_z88 h, List.forall_mem_cons.mpr ⟨fun pc h => sd_z90 h, List.forall_mem_cons.mpr ⟨fun pc h => sd_z91 h, List.forall_mem_cons.mpr ⟨fun pc h => sd_z92 h, List.forall_mem_cons.mpr ⟨fun pc h => sd_z93 h, List.forall_mem_cons.mpr ⟨fun pc h => sd_z94 h, List.forall_mem_cons.mpr ⟨fun pc h => sd_z95 h, List.forall_mem_cons.mpr ⟨fun pc h => sd_z96 h, List.forall_mem_cons.mpr ⟨fun pc h => sd_z97 h, List.forall_mem_cons.mpr ⟨fun pc h => sd_z98 h, List.forall_mem_cons.mpr ⟨fun pc h => sd_z99 h, List.forall_mem_cons.mpr ⟨fun pc h => sd_z100 h, List.forall_mem_cons.mpr ⟨fun pc h => sd_z101 h, fun _ h => nomatch h⟩⟩⟩⟩⟩⟩⟩⟩⟩⟩⟩⟩⟩⟩⟩⟩
theorem sd_zl6 : ∀ m ∈ [102, 103, 104, 105, 106, 107, 108, 109, 110, 111, 115, 116, 117, 119, 120, 121], ∀ pc, sd_sz m ≤ pc → ev_code m pc = none := List.forall_mem_cons.mpr ⟨fun pc h => sd_z102 h, List.forall_mem_cons.mpr ⟨fun pc h => sd_z103 h, List.forall_mem_cons.mpr ⟨fun pc h => sd_z104 h, List.forall_mem_cons.mpr ⟨fun pc h => sd_z105 h, List.forall_mem_cons.mpr ⟨fun pc h => sd_z106 h, List.forall_mem_cons.mpr ⟨fun pc h => sd_z107 h, List.forall_mem_cons.mpr ⟨fun pc h => sd_z108 h, List.forall_mem_cons.mpr ⟨fun pc h => sd_z109 h, List.forall_mem_cons.mpr ⟨fun pc h => sd_z110 h, List.forall_mem_cons.mpr ⟨fun pc h => sd_z111 h, List.forall_mem_cons.mpr ⟨fun pc h => sd_z115 h, List.forall_mem_cons.mpr ⟨fun pc h => sd_z116 h, List.forall_mem_cons.mpr ⟨fun pc h => sd_z117 h, List.forall_mem_cons.mpr ⟨fun pc h => sd_z119 h, List.forall_mem_cons.mpr ⟨fun pc h => sd_z120 h, List.forall_mem_cons.mpr ⟨fun pc h => sd_z121 h, fun _ h => nomatch h⟩⟩⟩⟩⟩⟩⟩⟩⟩⟩⟩⟩⟩⟩⟩⟩
theorem sd_zl7 : ∀ m ∈ [122, 123, 124, 125, 126, 224, 225, 226, 227, 228, 229, 230, 231, 232, 233, 234], ∀ pc, sd_sz m ≤ pc → ev_code m pc = none := List.forall_mem_cons.mpr ⟨fun pc h => sd_z122 h, List.forall_mem_cons.mpr ⟨fun pc h => sd_z123 h, List.forall_mem_cons.mpr ⟨fun pc h => sd_z124 h, List.forall_mem_cons.mpr ⟨fun pc h => sd_z125 h, List.forall_mem_cons.mpr ⟨fun pc h => sd_z126 h, List.forall_mem_cons.mpr ⟨fun pc h => sd_z224 h, List.forall_mem_cons.mpr ⟨fun pc h => sd_z225 h, List.forall_mem_cons.mpr ⟨fun pc h => sd_z226 h, List.forall_mem_cons.mpr ⟨fun pc h => sd_z227 h, List.forall_mem_cons.mpr ⟨fun pc h => sd_z228 h, List.forall_mem_cons.mpr ⟨fun pc h => sd_z229 h, List.forall_mem_cons.mpr ⟨fun pc h => sd_z230 h, List.forall_mem_cons.mpr ⟨fun pc h => sd_z231 h, List.forall_mem_cons.mpr ⟨fun pc h => sd_z232 h, List.forall_mem_cons.mpr ⟨fun pc h => sd_z233 h, List.forall_mem_cons.mpr ⟨fun pc h => sd_z234 h, fun _ h => nomatch h⟩⟩⟩⟩⟩⟩⟩⟩⟩⟩⟩⟩⟩⟩⟩⟩
theorem sd_zl8 : ∀ m ∈ [235, 236, 237, 238, 239, 240, 241, 242, 243, 244, 245, 246, 247, 248, 249, 250], ∀ pc, sd_sz m ≤ pc → ev_code m pc = none := List.forall_mem_cons.mpr ⟨fun pc h => sd_z235 h, List.forall_mem_cons.mpr ⟨fun pc h => sd_z236 h, List.forall_mem_cons.mpr ⟨fun pc h => sd_z237 h, List.forall_mem_cons.mpr ⟨fun pc h => sd_z238 h, List.forall_mem_cons.mpr ⟨fun pc h => sd_z239 h, List.forall_mem_cons.mpr ⟨fun pc h => sd_z240 h, List.forall_mem_cons.mpr ⟨fun pc h => sd_z241 h, List.forall_mem_cons.mpr ⟨fun pc h => sd_z242 h, List.forall_mem_cons.mpr ⟨fun pc h => sd_z243 h, List.forall_mem_cons.mpr ⟨fun pc h => sd_z244 h, List.forall_mem_cons.mpr ⟨fun pc h => sd_z245 h, List.forall_mem_cons.mpr ⟨fun pc h => sd_z246 h, List.forall_mem_cons.mpr ⟨fun pc h => sd_z247 h, List.forall_mem_cons.mpr ⟨fun pc h => sd_z248 h, List.forall_mem_cons.mpr ⟨fun pc h => sd_z249 h, List.forall_mem_cons.mpr ⟨fun pc h => sd_z250 h, fun _ h => nomatch h⟩⟩⟩⟩⟩⟩⟩⟩⟩⟩⟩⟩⟩⟩⟩⟩
theorem sd_zl9 : ∀ m ∈ [251, 252, 253, 254, 255, 256, 257, 258, 259, 260, 261, 262, 263, 264, 265, 266], ∀ pc, sd_sz m ≤ pc → ev_code m pc = none := List.forall_mem_cons.mpr ⟨fun pc h => sd_z251 h, List.forall_mem_cons.mpr ⟨fun pc h => sd_z252 h, List.forall_mem_cons.mpr ⟨fun pc h => sd_z253 h, List.forall_mem_cons.mpr ⟨fun pc h => sd_z254 h, List.forall_mem_cons.mpr ⟨fun pc h => sd_z255 h, List.forall_mem_cons.mpr ⟨fun pc h => sd_z256 h, List.forall_mem_cons.mpr ⟨fun pc h => sd_z257 h, List.forall_mem_cons.mpr ⟨fun pc h => sd_z258 h, List.forall_mem_cons.mpr ⟨fun pc h => sd_z259 h, List.forall_mem_cons.mpr ⟨fun pc h => sd_z260 h, List.forall_mem_cons.mpr ⟨fun pc h => sd_z261 h, List.forall_mem_cons.mpr ⟨fun pc h => sd_z262 h, List.forall_mem_cons.mpr ⟨fun pc h => sd_z263 h, List.forall_mem_cons.mpr ⟨fun pc h => sd_z264 h, List.forall_mem_cons.mpr ⟨fun pc h => sd_z265 h, List.forall_mem_cons.mpr ⟨fun pc h => sd_z266 h, fun _ h => nomatch h⟩⟩⟩⟩⟩⟩⟩⟩⟩⟩⟩⟩⟩⟩⟩⟩
theorem sd_zl10 : ∀ m ∈ [267, 268, 269, 270, 271, 272, 273, 274, 275, 276, 277, 278, 279, 280, 281, 282], ∀ pc, sd_sz m ≤ pc → ev_code m pc = none := List.forall_mem_cons.mpr ⟨fun pc h => sd_z267 h, List.forall_mem_cons.mpr ⟨fun pc h => sd_z268 h, List.forall_mem_cons.mpr ⟨fun pc h => sd_z269 h, List.forall_mem_cons.mpr ⟨fun pc h => sd_z270 h, List.forall_mem_cons.mpr ⟨fun pc h => sd_z271 h, List.forall_mem_cons.mpr ⟨fun pc h => sd_z272 h, List.forall_mem_cons.mpr ⟨fun pc h => sd_z273 h, List.forall_mem_cons.mpr ⟨fun pc h => sd_z274 h, List.forall_mem_cons.mpr ⟨fun pc h => sd_z275 h, List.forall_mem_cons.mpr ⟨fun pc h => sd_z276 h, List.forall_mem_cons.mpr ⟨fun pc h => sd_z277 h, List.forall_mem_cons.mpr ⟨fun pc h => sd_z278 h, List.forall_mem_cons.mpr ⟨fun pc h => sd_z279 h, List.forall_mem_cons.mpr ⟨fun pc h => sd_z280 h, List.forall_mem_cons.mpr ⟨fun pc h => sd_z281 h, List.forall_mem_cons.mpr ⟨fun pc h => sd_z282 h, fun _ h => nomatch h⟩⟩⟩⟩⟩⟩⟩⟩⟩⟩⟩⟩⟩⟩⟩⟩
def sd_ms : List Nat := [2, 3, 4, 5, 6, 7, 8, 9, 10, 11, 12, 13, 14, 15, 17, 18] ++ [19, 20, 21, 22, 23, 24, 25, 26, 27, 28, 29, 30, 31, 32, 33, 34] ++ [35, 36, 37, 38, 39, 40, 41, 42, 43, 44, 45, 46, 47, 48, 49, 50] ++ [51, 52, 53, 54, 55, 56, 57, 58, 61, 62, 63, 64, 65, 66, 67, 68] ++ [69, 70, 71, 72, 73, 74, 75, 76, 77, 78, 79, 80, 81, 82, 83, 84] ++ [85, 86, 87, 88, 90, 91, 92, 93, 94, 95, 96, 97, 98, 99, 100, 101] ++ [102, 103, 104, 105, 106, 107, 108, 109, 110, 111, 115, 116, 117, 119, 120, 121] ++ [122, 123, 124, 125, 126, 224, 225, 226, 227, 228, 229, 230, 231, 232, 233, 234] ++ [235, 236, 237, 238, 239, 240, 241, 242, 243, 244, 245, 246, 247, 248, 249, 250] ++ [251, 252, 253, 254, 255, 256, 257, 258, 259, 260, 261, 262, 263, 264, 265, 266] ++ [267, 268, 269, 270, 271, 272, 273, 274, 275, 276, 277, 278, 279, 280, 281, 282]
theorem sd_ms_in : ∀ m, m < 283 → sd_rl m = true → m ∈ sd_ms := by decide +kernel
theorem sd_zz : ∀ m ∈ sd_ms, ∀ pc, sd_sz m ≤ pc → ev_code m pc = none := (List.forall_mem_append.mpr ⟨(List.forall_mem_append.mpr ⟨(List.forall_mem_append.mpr ⟨(List.forall_mem_append.mpr ⟨(List.forall_mem_append.mpr ⟨(List.forall_mem_append.mpr ⟨(List.forall_mem_append.mpr ⟨(List.forall_mem_append.mpr ⟨(List.forall_mem_append.mpr ⟨(List.forall_mem_append.mpr ⟨sd_zl0, sd_zl1⟩), sd_zl2⟩), sd_zl3⟩), sd_zl4⟩), sd_zl5⟩), sd_zl6⟩), sd_zl7⟩), sd_zl8⟩), sd_zl9⟩), sd_zl10⟩)
theorem sd_zn {m pc : Nat} (hm : m < 283) (hr : sd_rl m = true) (h : sd_sz m ≤ pc) : ev_code m pc = none := sd_zz m (sd_ms_in m hm hr) pc h
/-! SOUNDNESS, 8: calls -/
def sd_wd (a : Nat) : Cond := match sd_hh a with
  | [] => .code (sd_y a) (sd_cc a) (ev_ml a) (sd_ret a)
  | q :: r => .codeWith (sd_y a) (sd_cc a) (ev_ml a) (sd_ret a) (q :: r)
def sd_ws (a : Nat) : List Cond := sd_wd a :: sd_gw
def sd_rm (a : Nat) : Room := { frames := ev_fr a, locals := ev_lr a, cells := ev_mc a, slots := ev_ms a }
def sd_Qc (g : sd_G) (res : ev_O) (μ1 : ev_M) : Array Value → State → Outcome → State → Prop := fun _ st oc t =>
  (match res with
   | .inl none => oc = .returned none
   | .inl (some x) => ∃ w, oc = .returned (some w) ∧ sd_v g (sd_nn μ1) x w
   | .inr _ => False) ∧ sd_R g μ1 t.heap ∧ va_F (sd_A g) st t
def sd_XC (g : sd_G) (res : ev_O) (μ1 : ev_M) : String → State → State → Prop := fun E st t => (∃ e, res = .inr e ∧ E = sd_xn e ∧ e < 3) ∧ sd_R g μ1 t.heap ∧ va_F (sd_A g) st t
def sd_Pc (g : sd_G) (μ : ev_M) (vs : List Value) : Array Value → State → Prop := va_Pc vs (fun U => sd_X g U U.heap ∧ sd_R g μ U.heap ∧ g.1 ≤ U.heap.size)
def sd_M (l : Launch) (g : sd_G) (a : Nat) (μ : ev_M) (res : ev_O) (μ1 : ev_M) (vs : List Value) : Prop := vx_Met l (sd_y a) (sd_ws a) (sd_rm a) (sd_Pc g μ vs) (sd_Qc g res μ1) (sd_XC g res μ1) (ev_mc a) (ev_ms a) (sd_A g)
def sd_P (l : Launch) (g : sd_G) (call : ev_F → ev_M → ev_T) : Prop := ∀ (a : Nat) (as : List ev_V) (μ : ev_M) (res : ev_O) (μ1 : ev_M) (vs : List Value), sd_rl a = true → a < 282 → as.length ≤ ev_ml a → ev_pl as = true → call (a, 0, as, [], 0, 0) μ = some (res, μ1) → sd_s g (sd_nn μ) as vs → sd_le (sd_nn μ) (sd_nn μ1) ∧ sd_M l g a μ res μ1 vs
theorem sd_wd_nil {a : Nat} (h : sd_hh a = []) : sd_wd a = .code (sd_y a) (sd_cc a) (ev_ml a) (sd_ret a) := by
  unfold sd_wd
  rw [h]
theorem sd_wd_con {a : Nat} (h : sd_hh a ≠ []) : sd_wd a = .codeWith (sd_y a) (sd_cc a) (ev_ml a) (sd_ret a) (sd_hh a) := by
  unfold sd_wd
  cases e : sd_hh a with
  | nil => exact absurd e h
  | cons q r => rfl
theorem sd_tc1 {w : Cond} (h : w ∈ tables_1_1) : w ∈ tables_1 := (List.mem_append.mpr (Or.inl h))
theorem sd_tc2 {w : Cond} (h : w ∈ tables_1_2) : w ∈ tables_1 := (List.mem_append.mpr (Or.inr (List.mem_append.mpr (Or.inl h))))
theorem sd_tc3 {w : Cond} (h : w ∈ tables_1_3) : w ∈ tables_1 := (List.mem_append.mpr (Or.inr (List.mem_append.mpr (Or.inr (List.mem_append.mpr (Or.inl h))))))
theorem sd_tc4 {w : Cond} (h : w ∈ tables_1_4) : w ∈ tables_1 := (List.mem_append.mpr (Or.inr (List.mem_append.mpr (Or.inr (List.mem_append.mpr (Or.inr (List.mem_append.mpr (Or.inl h))))))))
theorem sd_tc5 {w : Cond} (h : w ∈ tables_1_5) : w ∈ tables_1 := (List.mem_append.mpr (Or.inr (List.mem_append.mpr (Or.inr (List.mem_append.mpr (Or.inr (List.mem_append.mpr (Or.inr (List.mem_append.mpr (Or.inl h))))))))))
theorem sd_tc6 {w : Cond} (h : w ∈ tables_1_6) : w ∈ tables_1 := (List.mem_append.mpr (Or.inr (List.mem_append.mpr (Or.inr (List.mem_append.mpr (Or.inr (List.mem_append.mpr (Or.inr (List.mem_append.mpr (Or.inr (List.mem_append.mpr (Or.inl h))))))))))))
theorem sd_tc7 {w : Cond} (h : w ∈ tables_1_7) : w ∈ tables_1 := (List.mem_append.mpr (Or.inr (List.mem_append.mpr (Or.inr (List.mem_append.mpr (Or.inr (List.mem_append.mpr (Or.inr (List.mem_append.mpr (Or.inr (List.mem_append.mpr (Or.inr h))))))))))))
theorem sd_q2 : sd_wd 2 ∈ tables_1 := sd_tc4 (List.mem_of_getElem? (i := 35) rfl)
theorem sd_q3 : sd_wd 3 ∈ tables_1 := sd_tc4 (List.mem_of_getElem? (i := 210) rfl)
theorem sd_q4 : sd_wd 4 ∈ tables_1 := sd_tc4 (List.mem_of_getElem? (i := 39) rfl)
theorem sd_q5 : sd_wd 5 ∈ tables_1 := sd_tc4 (List.mem_of_getElem? (i := 214) rfl)
theorem sd_q6 : sd_wd 6 ∈ tables_1 := sd_tc4 (List.mem_of_getElem? (i := 118) rfl)
theorem sd_q7 : sd_wd 7 ∈ tables_1 := sd_tc4 (List.mem_of_getElem? (i := 217) rfl)
theorem sd_q8 : sd_wd 8 ∈ tables_1 := sd_tc1 (List.mem_of_getElem? (i := 87) rfl)
theorem sd_q9 : sd_wd 9 ∈ tables_1 := sd_tc4 (List.mem_of_getElem? (i := 121) rfl)
theorem sd_q10 : sd_wd 10 ∈ tables_1 := sd_tc1 (List.mem_of_getElem? (i := 138) rfl)
theorem sd_q11 : sd_wd 11 ∈ tables_1 := sd_tc2 (List.mem_of_getElem? (i := 31) rfl)
theorem sd_q12 : sd_wd 12 ∈ tables_1 := sd_tc5 (List.mem_of_getElem? (i := 167) rfl)
theorem sd_q13 : sd_wd 13 ∈ tables_1 := sd_tc2 (List.mem_of_getElem? (i := 155) rfl)
theorem sd_q14 : sd_wd 14 ∈ tables_1 := sd_tc5 (List.mem_of_getElem? (i := 182) rfl)
theorem sd_q15 : sd_wd 15 ∈ tables_1 := sd_tc5 (List.mem_of_getElem? (i := 201) rfl)
theorem sd_q17 : sd_wd 17 ∈ tables_1 := sd_tc1 (List.mem_of_getElem? (i := 50) rfl)
theorem sd_q18 : sd_wd 18 ∈ tables_1 := sd_tc4 (List.mem_of_getElem? (i := 229) rfl)
theorem sd_q19 : sd_wd 19 ∈ tables_1 := sd_tc5 (List.mem_of_getElem? (i := 75) rfl)
theorem sd_q20 : sd_wd 20 ∈ tables_1 := sd_tc5 (List.mem_of_getElem? (i := 84) rfl)
theorem sd_q21 : sd_wd 21 ∈ tables_1 := sd_tc5 (List.mem_of_getElem? (i := 92) rfl)
theorem sd_q22 : sd_wd 22 ∈ tables_1 := sd_tc5 (List.mem_of_getElem? (i := 106) rfl)
theorem sd_q23 : sd_wd 23 ∈ tables_1 := sd_tc5 (List.mem_of_getElem? (i := 87) rfl)
theorem sd_q24 : sd_wd 24 ∈ tables_1 := sd_tc1 (List.mem_of_getElem? (i := 79) rfl)
theorem sd_q25 : sd_wd 25 ∈ tables_1 := sd_tc1 (List.mem_of_getElem? (i := 84) rfl)
theorem sd_q26 : sd_wd 26 ∈ tables_1 := sd_tc5 (List.mem_of_getElem? (i := 158) rfl)
theorem sd_q27 : sd_wd 27 ∈ tables_1 := sd_tc5 (List.mem_of_getElem? (i := 227) rfl)
theorem sd_q28 : sd_wd 28 ∈ tables_1 := sd_tc6 (List.mem_of_getElem? (i := 48) rfl)
theorem sd_q29 : sd_wd 29 ∈ tables_1 := sd_tc6 (List.mem_of_getElem? (i := 107) rfl)
theorem sd_q30 : sd_wd 30 ∈ tables_1 := sd_tc1 (List.mem_of_getElem? (i := 44) rfl)
theorem sd_q31 : sd_wd 31 ∈ tables_1 := sd_tc5 (List.mem_of_getElem? (i := 65) rfl)
theorem sd_q32 : sd_wd 32 ∈ tables_1 := sd_tc5 (List.mem_of_getElem? (i := 69) rfl)
theorem sd_q33 : sd_wd 33 ∈ tables_1 := sd_tc5 (List.mem_of_getElem? (i := 98) rfl)
theorem sd_q34 : sd_wd 34 ∈ tables_1 := sd_tc5 (List.mem_of_getElem? (i := 80) rfl)
theorem sd_q35 : sd_wd 35 ∈ tables_1 := sd_tc5 (List.mem_of_getElem? (i := 114) rfl)
theorem sd_q36 : sd_wd 36 ∈ tables_1 := sd_tc5 (List.mem_of_getElem? (i := 119) rfl)
theorem sd_q37 : sd_wd 37 ∈ tables_1 := sd_tc5 (List.mem_of_getElem? (i := 127) rfl)
theorem sd_q38 : sd_wd 38 ∈ tables_1 := sd_tc5 (List.mem_of_getElem? (i := 136) rfl)
theorem sd_q39 : sd_wd 39 ∈ tables_1 := sd_tc5 (List.mem_of_getElem? (i := 150) rfl)
theorem sd_q40 : sd_wd 40 ∈ tables_1 := sd_tc5 (List.mem_of_getElem? (i := 102) rfl)
theorem sd_q41 : sd_wd 41 ∈ tables_1 := sd_tc5 (List.mem_of_getElem? (i := 110) rfl)
theorem sd_q42 : sd_wd 42 ∈ tables_1 := sd_tc5 (List.mem_of_getElem? (i := 139) rfl)
theorem sd_q43 : sd_wd 43 ∈ tables_1 := sd_tc1 (List.mem_of_getElem? (i := 213) rfl)
theorem sd_q44 : sd_wd 44 ∈ tables_1 := sd_tc2 (List.mem_of_getElem? (i := 41) rfl)
theorem sd_q45 : sd_wd 45 ∈ tables_1 := sd_tc5 (List.mem_of_getElem? (i := 177) rfl)
theorem sd_q46 : sd_wd 46 ∈ tables_1 := sd_tc6 (List.mem_of_getElem? (i := 59) rfl)
theorem sd_q47 : sd_wd 47 ∈ tables_1 := sd_tc5 (List.mem_of_getElem? (i := 131) rfl)
theorem sd_q48 : sd_wd 48 ∈ tables_1 := sd_tc6 (List.mem_of_getElem? (i := 55) rfl)
theorem sd_q49 : sd_wd 49 ∈ tables_1 := sd_tc7 (List.mem_of_getElem? (i := 13) rfl)
theorem sd_q50 : sd_wd 50 ∈ tables_1 := sd_tc6 (List.mem_of_getElem? (i := 223) rfl)
theorem sd_q51 : sd_wd 51 ∈ tables_1 := sd_tc6 (List.mem_of_getElem? (i := 114) rfl)
theorem sd_q52 : sd_wd 52 ∈ tables_1 := sd_tc1 (List.mem_of_getElem? (i := 183) rfl)
theorem sd_q53 : sd_wd 53 ∈ tables_1 := sd_tc2 (List.mem_of_getElem? (i := 36) rfl)
theorem sd_q54 : sd_wd 54 ∈ tables_1 := sd_tc5 (List.mem_of_getElem? (i := 172) rfl)
theorem sd_q55 : sd_wd 55 ∈ tables_1 := sd_tc6 (List.mem_of_getElem? (i := 150) rfl)
theorem sd_q56 : sd_wd 56 ∈ tables_1 := sd_tc6 (List.mem_of_getElem? (i := 163) rfl)
theorem sd_q57 : sd_wd 57 ∈ tables_1 := sd_tc2 (List.mem_of_getElem? (i := 175) rfl)
theorem sd_q58 : sd_wd 58 ∈ tables_1 := sd_tc5 (List.mem_of_getElem? (i := 186) rfl)
theorem sd_q61 : sd_wd 61 ∈ tables_1 := sd_tc1 (List.mem_of_getElem? (i := 132) rfl)
theorem sd_q62 : sd_wd 62 ∈ tables_1 := sd_tc2 (List.mem_of_getElem? (i := 15) rfl)
theorem sd_q63 : sd_wd 63 ∈ tables_1 := sd_tc5 (List.mem_of_getElem? (i := 163) rfl)
theorem sd_q64 : sd_wd 64 ∈ tables_1 := sd_tc6 (List.mem_of_getElem? (i := 12) rfl)
theorem sd_q65 : sd_wd 65 ∈ tables_1 := sd_tc6 (List.mem_of_getElem? (i := 8) rfl)
theorem sd_q66 : sd_wd 66 ∈ tables_1 := sd_tc6 (List.mem_of_getElem? (i := 32) rfl)
theorem sd_q67 : sd_wd 67 ∈ tables_1 := sd_tc6 (List.mem_of_getElem? (i := 145) rfl)
theorem sd_q68 : sd_wd 68 ∈ tables_1 := sd_tc6 (List.mem_of_getElem? (i := 154) rfl)
theorem sd_q69 : sd_wd 69 ∈ tables_1 := sd_tc2 (List.mem_of_getElem? (i := 120) rfl)
theorem sd_q70 : sd_wd 70 ∈ tables_1 := sd_tc6 (List.mem_of_getElem? (i := 69) rfl)
theorem sd_q71 : sd_wd 71 ∈ tables_1 := sd_tc6 (List.mem_of_getElem? (i := 73) rfl)
theorem sd_q72 : sd_wd 72 ∈ tables_1 := sd_tc6 (List.mem_of_getElem? (i := 77) rfl)
theorem sd_q73 : sd_wd 73 ∈ tables_1 := sd_tc6 (List.mem_of_getElem? (i := 82) rfl)
theorem sd_q74 : sd_wd 74 ∈ tables_1 := sd_tc6 (List.mem_of_getElem? (i := 86) rfl)
theorem sd_q75 : sd_wd 75 ∈ tables_1 := sd_tc6 (List.mem_of_getElem? (i := 91) rfl)
theorem sd_q76 : sd_wd 76 ∈ tables_1 := sd_tc6 (List.mem_of_getElem? (i := 98) rfl)
theorem sd_q77 : sd_wd 77 ∈ tables_1 := sd_tc6 (List.mem_of_getElem? (i := 118) rfl)
theorem sd_q78 : sd_wd 78 ∈ tables_1 := sd_tc6 (List.mem_of_getElem? (i := 133) rfl)
theorem sd_q79 : sd_wd 79 ∈ tables_1 := sd_tc6 (List.mem_of_getElem? (i := 126) rfl)
theorem sd_q80 : sd_wd 80 ∈ tables_1 := sd_tc6 (List.mem_of_getElem? (i := 123) rfl)
theorem sd_q81 : sd_wd 81 ∈ tables_1 := sd_tc6 (List.mem_of_getElem? (i := 130) rfl)
theorem sd_q82 : sd_wd 82 ∈ tables_1 := sd_tc6 (List.mem_of_getElem? (i := 137) rfl)
theorem sd_q83 : sd_wd 83 ∈ tables_1 := sd_tc6 (List.mem_of_getElem? (i := 141) rfl)
theorem sd_q84 : sd_wd 84 ∈ tables_1 := sd_tc6 (List.mem_of_getElem? (i := 159) rfl)
theorem sd_q85 : sd_wd 85 ∈ tables_1 := sd_tc6 (List.mem_of_getElem? (i := 167) rfl)
theorem sd_q86 : sd_wd 86 ∈ tables_1 := sd_tc1 (List.mem_of_getElem? (i := 36) rfl)
theorem sd_q87 : sd_wd 87 ∈ tables_1 := sd_tc4 (List.mem_of_getElem? (i := 225) rfl)
theorem sd_q88 : sd_wd 88 ∈ tables_1 := sd_tc4 (List.mem_of_getElem? (i := 234) rfl)
theorem sd_q90 : sd_wd 90 ∈ tables_1 := sd_tc7 (List.mem_of_getElem? (i := 9) rfl)
theorem sd_q91 : sd_wd 91 ∈ tables_1 := sd_tc7 (List.mem_of_getElem? (i := 25) rfl)
theorem sd_q92 : sd_wd 92 ∈ tables_1 := sd_tc6 (List.mem_of_getElem? (i := 219) rfl)
theorem sd_q93 : sd_wd 93 ∈ tables_1 := sd_tc6 (List.mem_of_getElem? (i := 234) rfl)
theorem sd_q94 : sd_wd 94 ∈ tables_1 := sd_tc6 (List.mem_of_getElem? (i := 239) rfl)
theorem sd_q95 : sd_wd 95 ∈ tables_1 := sd_tc6 (List.mem_of_getElem? (i := 227) rfl)
theorem sd_q96 : sd_wd 96 ∈ tables_1 := sd_tc7 (List.mem_of_getElem? (i := 33) rfl)
theorem sd_q97 : sd_wd 97 ∈ tables_1 := sd_tc7 (List.mem_of_getElem? (i := 63) rfl)
theorem sd_q98 : sd_wd 98 ∈ tables_1 := sd_tc7 (List.mem_of_getElem? (i := 69) rfl)
theorem sd_q99 : sd_wd 99 ∈ tables_1 := sd_tc7 (List.mem_of_getElem? (i := 77) rfl)
theorem sd_q100 : sd_wd 100 ∈ tables_1 := sd_tc7 (List.mem_of_getElem? (i := 97) rfl)
theorem sd_q101 : sd_wd 101 ∈ tables_1 := sd_tc7 (List.mem_of_getElem? (i := 93) rfl)
theorem sd_q102 : sd_wd 102 ∈ tables_1 := sd_tc7 (List.mem_of_getElem? (i := 85) rfl)
theorem sd_q103 : sd_wd 103 ∈ tables_1 := sd_tc7 (List.mem_of_getElem? (i := 46) rfl)
theorem sd_q104 : sd_wd 104 ∈ tables_1 := sd_tc7 (List.mem_of_getElem? (i := 42) rfl)
theorem sd_q105 : sd_wd 105 ∈ tables_1 := sd_tc7 (List.mem_of_getElem? (i := 38) rfl)
theorem sd_q106 : sd_wd 106 ∈ tables_1 := sd_tc7 (List.mem_of_getElem? (i := 29) rfl)
theorem sd_q107 : sd_wd 107 ∈ tables_1 := sd_tc6 (List.mem_of_getElem? (i := 63) rfl)
theorem sd_q108 : sd_wd 108 ∈ tables_1 := sd_tc6 (List.mem_of_getElem? (i := 40) rfl)
theorem sd_q109 : sd_wd 109 ∈ tables_1 := sd_tc5 (List.mem_of_getElem? (i := 219) rfl)
theorem sd_q110 : sd_wd 110 ∈ tables_1 := sd_tc5 (List.mem_of_getElem? (i := 193) rfl)
theorem sd_q111 : sd_wd 111 ∈ tables_1 := sd_tc5 (List.mem_of_getElem? (i := 207) rfl)
theorem sd_q115 : sd_wd 115 ∈ tables_1 := sd_tc5 (List.mem_of_getElem? (i := 223) rfl)
theorem sd_q116 : sd_wd 116 ∈ tables_1 := sd_tc6 (List.mem_of_getElem? (i := 44) rfl)
theorem sd_q117 : sd_wd 117 ∈ tables_1 := sd_tc7 (List.mem_of_getElem? (i := 3) rfl)
theorem sd_q119 : sd_wd 119 ∈ tables_1 := sd_tc7 (List.mem_of_getElem? (i := 81) rfl)
theorem sd_q120 : sd_wd 120 ∈ tables_1 := sd_tc7 (List.mem_of_getElem? (i := 17) rfl)
theorem sd_q121 : sd_wd 121 ∈ tables_1 := sd_tc7 (List.mem_of_getElem? (i := 21) rfl)
theorem sd_q122 : sd_wd 122 ∈ tables_1 := sd_tc7 (List.mem_of_getElem? (i := 73) rfl)
theorem sd_q123 : sd_wd 123 ∈ tables_1 := sd_tc7 (List.mem_of_getElem? (i := 89) rfl)
theorem sd_q124 : sd_wd 124 ∈ tables_1 := sd_tc5 (List.mem_of_getElem? (i := 122) rfl)
theorem sd_q125 : sd_wd 125 ∈ tables_1 := sd_tc6 (List.mem_of_getElem? (i := 102) rfl)
theorem sd_q126 : sd_wd 126 ∈ tables_1 := sd_tc2 (List.mem_of_getElem? (i := 20) rfl)
theorem sd_q224 : sd_wd 224 ∈ tables_1 := sd_tc2 (List.mem_of_getElem? (i := 221) rfl)
theorem sd_q225 : sd_wd 225 ∈ tables_1 := sd_tc2 (List.mem_of_getElem? (i := 224) rfl)
theorem sd_q226 : sd_wd 226 ∈ tables_1 := sd_tc3 (List.mem_of_getElem? (i := 202) rfl)
theorem sd_q227 : sd_wd 227 ∈ tables_1 := sd_tc3 (List.mem_of_getElem? (i := 205) rfl)
theorem sd_q228 : sd_wd 228 ∈ tables_1 := sd_tc3 (List.mem_of_getElem? (i := 213) rfl)
theorem sd_q229 : sd_wd 229 ∈ tables_1 := sd_tc3 (List.mem_of_getElem? (i := 217) rfl)
theorem sd_q230 : sd_wd 230 ∈ tables_1 := sd_tc3 (List.mem_of_getElem? (i := 220) rfl)
theorem sd_q231 : sd_wd 231 ∈ tables_1 := sd_tc3 (List.mem_of_getElem? (i := 231) rfl)
theorem sd_q232 : sd_wd 232 ∈ tables_1 := sd_tc4 (List.mem_of_getElem? (i := 5) rfl)
theorem sd_q233 : sd_wd 233 ∈ tables_1 := sd_tc4 (List.mem_of_getElem? (i := 44) rfl)
theorem sd_q234 : sd_wd 234 ∈ tables_1 := sd_tc4 (List.mem_of_getElem? (i := 48) rfl)
theorem sd_q235 : sd_wd 235 ∈ tables_1 := sd_tc4 (List.mem_of_getElem? (i := 72) rfl)
theorem sd_q236 : sd_wd 236 ∈ tables_1 := sd_tc4 (List.mem_of_getElem? (i := 78) rfl)
theorem sd_q237 : sd_wd 237 ∈ tables_1 := sd_tc4 (List.mem_of_getElem? (i := 81) rfl)
theorem sd_q238 : sd_wd 238 ∈ tables_1 := sd_tc4 (List.mem_of_getElem? (i := 84) rfl)
theorem sd_q239 : sd_wd 239 ∈ tables_1 := sd_tc4 (List.mem_of_getElem? (i := 87) rfl)
theorem sd_q240 : sd_wd 240 ∈ tables_1 := sd_tc4 (List.mem_of_getElem? (i := 103) rfl)
theorem sd_q241 : sd_wd 241 ∈ tables_1 := sd_tc4 (List.mem_of_getElem? (i := 106) rfl)
theorem sd_q242 : sd_wd 242 ∈ tables_1 := sd_tc4 (List.mem_of_getElem? (i := 109) rfl)
theorem sd_q243 : sd_wd 243 ∈ tables_1 := sd_tc4 (List.mem_of_getElem? (i := 146) rfl)
theorem sd_q244 : sd_wd 244 ∈ tables_1 := sd_tc4 (List.mem_of_getElem? (i := 151) rfl)
theorem sd_q245 : sd_wd 245 ∈ tables_1 := sd_tc4 (List.mem_of_getElem? (i := 154) rfl)
theorem sd_q246 : sd_wd 246 ∈ tables_1 := sd_tc4 (List.mem_of_getElem? (i := 160) rfl)
theorem sd_q247 : sd_wd 247 ∈ tables_1 := sd_tc4 (List.mem_of_getElem? (i := 166) rfl)
theorem sd_q248 : sd_wd 248 ∈ tables_1 := sd_tc4 (List.mem_of_getElem? (i := 168) rfl)
theorem sd_q249 : sd_wd 249 ∈ tables_1 := sd_tc4 (List.mem_of_getElem? (i := 172) rfl)
theorem sd_q250 : sd_wd 250 ∈ tables_1 := sd_tc4 (List.mem_of_getElem? (i := 175) rfl)
theorem sd_q251 : sd_wd 251 ∈ tables_1 := sd_tc4 (List.mem_of_getElem? (i := 178) rfl)
theorem sd_q252 : sd_wd 252 ∈ tables_1 := sd_tc4 (List.mem_of_getElem? (i := 35) rfl)
theorem sd_q253 : sd_wd 253 ∈ tables_1 := sd_tc4 (List.mem_of_getElem? (i := 39) rfl)
theorem sd_q254 : sd_wd 254 ∈ tables_1 := sd_tc4 (List.mem_of_getElem? (i := 210) rfl)
theorem sd_q255 : sd_wd 255 ∈ tables_1 := sd_tc4 (List.mem_of_getElem? (i := 214) rfl)
theorem sd_q256 : sd_wd 256 ∈ tables_1 := sd_tc4 (List.mem_of_getElem? (i := 217) rfl)
theorem sd_q257 : sd_wd 257 ∈ tables_1 := sd_tc3 (List.mem_of_getElem? (i := 22) rfl)
theorem sd_q258 : sd_wd 258 ∈ tables_1 := sd_tc7 (List.mem_of_getElem? (i := 58) rfl)
theorem sd_q259 : sd_wd 259 ∈ tables_1 := sd_tc6 (List.mem_of_getElem? (i := 211) rfl)
theorem sd_q260 : sd_wd 260 ∈ tables_1 := sd_tc3 (List.mem_of_getElem? (i := 15) rfl)
theorem sd_q261 : sd_wd 261 ∈ tables_1 := sd_tc7 (List.mem_of_getElem? (i := 53) rfl)
theorem sd_q262 : sd_wd 262 ∈ tables_1 := sd_tc4 (List.mem_of_getElem? (i := 141) rfl)
theorem sd_q263 : sd_wd 263 ∈ tables_1 := sd_tc6 (List.mem_of_getElem? (i := 36) rfl)
theorem sd_q264 : sd_wd 264 ∈ tables_1 := sd_tc5 (List.mem_of_getElem? (i := 211) rfl)
theorem sd_q265 : sd_wd 265 ∈ tables_1 := sd_tc6 (List.mem_of_getElem? (i := 194) rfl)
theorem sd_q266 : sd_wd 266 ∈ tables_1 := sd_tc6 (List.mem_of_getElem? (i := 190) rfl)
theorem sd_q267 : sd_wd 267 ∈ tables_1 := sd_tc6 (List.mem_of_getElem? (i := 186) rfl)
theorem sd_q268 : sd_wd 268 ∈ tables_1 := sd_tc6 (List.mem_of_getElem? (i := 200) rfl)
theorem sd_q269 : sd_wd 269 ∈ tables_1 := sd_tc6 (List.mem_of_getElem? (i := 203) rfl)
theorem sd_q270 : sd_wd 270 ∈ tables_1 := sd_tc6 (List.mem_of_getElem? (i := 207) rfl)
theorem sd_q271 : sd_wd 271 ∈ tables_1 := sd_tc6 (List.mem_of_getElem? (i := 179) rfl)
theorem sd_q272 : sd_wd 272 ∈ tables_1 := sd_tc5 (List.mem_of_getElem? (i := 215) rfl)
theorem sd_q273 : sd_wd 273 ∈ tables_1 := sd_tc6 (List.mem_of_getElem? (i := 175) rfl)
theorem sd_q274 : sd_wd 274 ∈ tables_1 := sd_tc6 (List.mem_of_getElem? (i := 171) rfl)
theorem sd_q275 : sd_wd 275 ∈ tables_1 := sd_tc4 (List.mem_of_getElem? (i := 205) rfl)
theorem sd_q276 : sd_wd 276 ∈ tables_1 := sd_tc3 (List.mem_of_getElem? (i := 195) rfl)
theorem sd_q277 : sd_wd 277 ∈ tables_1 := sd_tc3 (List.mem_of_getElem? (i := 10) rfl)
theorem sd_q278 : sd_wd 278 ∈ tables_1 := sd_tc2 (List.mem_of_getElem? (i := 216) rfl)
theorem sd_q279 : sd_wd 279 ∈ tables_1 := sd_tc6 (List.mem_of_getElem? (i := 215) rfl)
theorem sd_q280 : sd_wd 280 ∈ tables_1 := sd_tc7 (List.mem_of_getElem? (i := 49) rfl)
theorem sd_q281 : sd_wd 281 ∈ tables_1 := sd_tc5 (List.mem_of_getElem? (i := 189) rfl)
theorem sd_ql0 : ∀ m ∈ [2, 3, 4, 5, 6, 7, 8, 9, 10, 11, 12, 13, 14, 15, 17, 18], sd_wd m ∈ tables_1 := List.forall_mem_cons.mpr ⟨sd_q2, List.forall_mem_cons.mpr ⟨sd_q3, List.forall_mem_cons.mpr ⟨sd_q4, List.forall_mem_cons.mpr ⟨sd_q5, List.forall_mem_cons.mpr ⟨sd_q6, List.forall_mem_cons.mpr ⟨sd_q7, List.forall_mem_cons.mpr ⟨sd_q8, List.forall_mem_cons.mpr ⟨sd_q9, List.forall_mem_cons.mpr ⟨sd_q10, List.forall_mem_cons.mpr ⟨sd_q11, List.forall_mem_cons.mpr ⟨sd_q12, List.forall_mem_cons.mpr ⟨sd_q13, List.forall_mem_cons.mpr ⟨sd_q14, List.forall_mem_cons.mpr ⟨sd_q15, List.forall_mem_cons.mpr ⟨sd_q17, List.forall_mem_cons.mpr ⟨sd_q18, fun _ h => nomatch h⟩⟩⟩⟩⟩⟩⟩⟩⟩⟩⟩⟩⟩⟩⟩⟩
theorem sd_ql1 : ∀ m ∈ [19, 20, 21, 22, 23, 24, 25, 26, 27, 28, 29, 30, 31, 32, 33, 34], sd_wd m ∈ tables_1 := List.forall_mem_cons.mpr ⟨sd_q19, List.forall_mem_cons.mpr ⟨sd_q20, List.forall_mem_cons.mpr ⟨sd_q21, List.forall_mem_cons.mpr ⟨sd_q22, List.forall_mem_cons.mpr ⟨sd_q23, List.forall_mem_cons.mpr ⟨sd_q24, List.forall_mem_cons.mpr ⟨sd_q25, List.forall_mem_cons.mpr ⟨sd_q26, List.forall_mem_cons.mpr ⟨sd_q27, List.forall_mem_cons.mpr ⟨sd_q28, List.forall_mem_cons.mpr ⟨sd_q29, List.forall_mem_cons.mpr ⟨sd_q30, List.forall_mem_cons.mpr ⟨sd_q31, List.forall_mem_cons.mpr ⟨sd_q32, List.forall_mem_cons.mpr ⟨sd_q33, List.forall_mem_cons.mpr ⟨sd_q34, fun _ h => nomatch h⟩⟩⟩⟩⟩⟩⟩⟩⟩⟩⟩⟩⟩⟩⟩⟩
theorem sd_ql2 : ∀ m ∈ [35, 36, 37, 38, 39, 40, 41, 42, 43, 44, 45, 46, 47, 48, 49, 50], sd_wd m ∈ tables_1 := List.forall_mem_cons.mpr ⟨sd_q35, List.forall_mem_cons.mpr ⟨sd_q36, List.forall_mem_cons.mpr ⟨sd_q37, List.forall_mem_cons.mpr ⟨sd_q38, List.forall_mem_cons.mpr ⟨sd_q39, List.forall_mem_cons.mpr ⟨sd_q40, List.forall_mem_cons.mpr ⟨sd_q41, List.forall_mem_cons.mpr ⟨sd_q42, List.forall_mem_cons.mpr ⟨sd_q43, List.forall_mem_cons.mpr ⟨sd_q44, List.forall_mem_cons.mpr ⟨sd_q45, List.forall_mem_cons.mpr ⟨sd_q46, List.forall_mem_cons.mpr ⟨sd_q47, List.forall_mem_cons.mpr ⟨sd_q48, List.forall_mem_cons.mpr ⟨sd_q49, List.forall_mem_cons.mpr ⟨sd_q50, fun _ h => nomatch h⟩⟩⟩⟩⟩⟩⟩⟩⟩⟩⟩⟩⟩⟩⟩⟩
theorem sd_ql3 : ∀ m ∈ [51, 52, 53, 54, 55, 56, 57, 58, 61, 62, 63, 64, 65, 66, 67, 68], sd_wd m ∈ tables_1 := List.forall_mem_cons.mpr ⟨sd_q51, List.forall_mem_cons.mpr ⟨sd_q52, List.forall_mem_cons.mpr ⟨sd_q53, List.forall_mem_cons.mpr ⟨sd_q54, List.forall_mem_cons.mpr ⟨sd_q55, List.forall_mem_cons.mpr ⟨sd_q56, List.forall_mem_cons.mpr ⟨sd_q57, List.forall_mem_cons.mpr ⟨sd_q58, List.forall_mem_cons.mpr ⟨sd_q61, List.forall_mem_cons.mpr ⟨sd_q62, List.forall_mem_cons.mpr ⟨sd_q63, List.forall_mem_cons.mpr ⟨sd_q64, List.forall_mem_cons.mpr ⟨sd_q65, List.forall_mem_cons.mpr ⟨sd_q66, List.forall_mem_cons.mpr ⟨sd_q67, List.forall_mem_cons.mpr ⟨sd_q68, fun _ h => nomatch h⟩⟩⟩⟩⟩⟩⟩⟩⟩⟩⟩⟩⟩⟩⟩⟩
theorem sd_ql4 : ∀ m ∈ [69, 70, 71, 72, 73, 74, 75, 76, 77, 78, 79, 80, 81, 82, 83, 84], sd_wd m ∈ tables_1 := List.forall_mem_cons.mpr ⟨sd_q69, List.forall_mem_cons.mpr ⟨sd_q70, List.forall_mem_cons.mpr ⟨sd_q71, List.forall_mem_cons.mpr ⟨sd_q72, List.forall_mem_cons.mpr ⟨sd_q73, List.forall_mem_cons.mpr ⟨sd_q74, List.forall_mem_cons.mpr ⟨sd_q75, List.forall_mem_cons.mpr ⟨sd_q76, List.forall_mem_cons.mpr ⟨sd_q77, List.forall_mem_cons.mpr ⟨sd_q78, List.forall_mem_cons.mpr ⟨sd_q79, List.forall_mem_cons.mpr ⟨sd_q80, List.forall_mem_cons.mpr ⟨sd_q81, List.forall_mem_cons.mpr ⟨sd_q82, List.forall_mem_cons.mpr ⟨sd_q83, List.forall_mem_cons.mpr ⟨sd_q84, fun _ h => nomatch h⟩⟩⟩⟩⟩⟩⟩⟩⟩⟩⟩⟩⟩⟩⟩⟩
theorem sd_ql5 : ∀ m ∈ [85, 86, 87, 88, 90, 91, 92, 93, 94, 95, 96, 97, 98, 99, 100, 101], sd_wd m ∈ tables_1 := List.forall_mem_cons.mpr ⟨sd_q85, List.forall_mem_cons.mpr ⟨sd_q86, List.forall_mem_cons.mpr ⟨sd_q87, List.forall_mem_cons.mpr ⟨sd_q88, List.forall_mem_cons.mpr ⟨sd_q90, List.forall_mem_cons.mpr ⟨sd_q91, List.forall_mem_cons.mpr ⟨sd_q92, List.forall_mem_cons.mpr ⟨sd_q93, List.forall_mem_cons.mpr ⟨sd_q94, List.forall_mem_cons.mpr ⟨sd_q95, List.forall_mem_cons.mpr ⟨sd_q96, List.forall_mem_cons.mpr ⟨sd_q97, List.forall_mem_cons.mpr ⟨sd_q98, List.forall_mem_cons.mpr ⟨sd_q99, List.forall_mem_cons.mpr ⟨sd_q100, List.forall_mem_cons.mpr ⟨sd_q101, fun _ h => nomatch h⟩⟩⟩⟩⟩⟩⟩⟩⟩⟩⟩⟩⟩⟩⟩⟩
theorem sd_ql6 : ∀ m ∈ [102, 103, 104, 105, 106, 107, 108, 109, 110, 111, 115, 116, 117, 119, 120, 121], sd_wd m ∈ tables_1 := List.forall_mem_cons.mpr ⟨sd_q102, List.forall_mem_cons.mpr ⟨sd_q103, List.forall_mem_cons.mpr ⟨sd_q104, List.forall_mem_cons.mpr ⟨sd_q105, List.forall_mem_cons.mpr ⟨sd_q106, List.forall_mem_cons.mpr ⟨sd_q107, List.forall_mem_cons.mpr ⟨sd_q108, List.forall_mem_cons.mpr ⟨sd_q109, List.forall_mem_cons.mpr ⟨sd_q110, List.forall_mem_cons.mpr ⟨sd_q111, List.forall_mem_cons.mpr ⟨sd_q115, List.forall_mem_cons.mpr ⟨sd_q116, List.forall_mem_cons.mpr ⟨sd_q117, List.forall_mem_cons.mpr ⟨sd_q119, List.forall_mem_cons.mpr ⟨sd_q120, List.forall_mem_cons.mpr ⟨sd_q121, fun _ h => nomatch h⟩⟩⟩⟩⟩⟩⟩⟩⟩⟩⟩⟩⟩⟩⟩⟩
theorem sd_ql7 : ∀ m ∈ [122, 123, 124, 125, 126, 224, 225, 226, 227, 228, 229, 230, 231, 232, 233, 234], sd_wd m ∈ tables_1 := List.forall_mem_cons.mpr ⟨sd_q122, List.forall_mem_cons.mpr ⟨sd_q123, List.forall_mem_cons.mpr ⟨sd_q124, List.forall_mem_cons.mpr ⟨sd_q125, List.forall_mem_cons.mpr ⟨sd_q126, List.forall_mem_cons.mpr ⟨sd_q224, List.forall_mem_cons.mpr ⟨sd_q225, List.forall_mem_cons.mpr ⟨sd_q226, List.forall_mem_cons.mpr ⟨sd_q227, List.forall_mem_cons.mpr ⟨sd_q228, List.forall_mem_cons.mpr ⟨sd_q229, List.forall_mem_cons.mpr ⟨sd_q230, List.forall_mem_cons.mpr ⟨sd_q231, List.forall_mem_cons.mpr ⟨sd_q232, List.forall_mem_cons.mpr ⟨sd_q233, List.forall_mem_cons.mpr ⟨sd_q234, fun _ h => nomatch h⟩⟩⟩⟩⟩⟩⟩⟩⟩⟩⟩⟩⟩⟩⟩⟩
theorem sd_ql8 : ∀ m ∈ [235, 236, 237, 238, 239, 240, 241, 242, 243, 244, 245, 246, 247, 248, 249, 250], sd_wd m ∈ tables_1 := List.forall_mem_cons.mpr ⟨sd_q235, List.forall_mem_cons.mpr ⟨sd_q236, List.forall_mem_cons.mpr ⟨sd_q237, List.forall_mem_cons.mpr ⟨sd_q238, List.forall_mem_cons.mpr ⟨sd_q239, List.forall_mem_cons.mpr ⟨sd_q240, List.forall_mem_cons.mpr ⟨sd_q241, List.forall_mem_cons.mpr ⟨sd_q242, List.forall_mem_cons.mpr ⟨sd_q243, List.forall_mem_cons.mpr ⟨sd_q244, List.forall_mem_cons.mpr ⟨sd_q245, List.forall_mem_cons.mpr ⟨sd_q246, List.forall_mem_cons.mpr ⟨sd_q247, List.forall_mem_cons.mpr ⟨sd_q248, List.forall_mem_cons.mpr ⟨sd_q249, List.forall_mem_cons.mpr ⟨sd_q250, fun _ h => nomatch h⟩⟩⟩⟩⟩⟩⟩⟩⟩⟩⟩⟩⟩⟩⟩⟩
theorem sd_ql9 : ∀ m ∈ [251, 252, 253, 254, 255, 256, 257, 258, 259, 260, 261, 262, 263, 264, 265, 266], sd_wd m ∈ tables_1 := List.forall_mem_cons.mpr ⟨sd_q251, List.forall_mem_cons.mpr ⟨sd_q252, List.forall_mem_cons.mpr ⟨sd_q253, List.forall_mem_cons.mpr ⟨sd_q254, List.forall_mem_cons.mpr ⟨sd_q255, List.forall_mem_cons.mpr ⟨sd_q256, List.forall_mem_cons.mpr ⟨sd_q257, List.forall_mem_cons.mpr ⟨sd_q258, List.forall_mem_cons.mpr ⟨sd_q259, List.forall_mem_cons.mpr ⟨sd_q260, List.forall_mem_cons.mpr ⟨sd_q261, List.forall_mem_cons.mpr ⟨sd_q262, List.forall_mem_cons.mpr ⟨sd_q263, List.forall_mem_cons.mpr ⟨sd_q264, List.forall_mem_cons.mpr ⟨sd_q265, List.forall_mem_cons.mpr ⟨sd_q266, fun _ h => nomatch h⟩⟩⟩⟩⟩⟩⟩⟩⟩⟩⟩⟩⟩⟩⟩⟩
theorem sd_ql10 : ∀ m ∈ [267, 268, 269, 270, 271, 272, 273, 274, 275, 276, 277, 278, 279, 280, 281], sd_wd m ∈ tables_1 := List.forall_mem_cons.mpr ⟨sd_q267, List.forall_mem_cons.mpr ⟨sd_q268, List.forall_mem_cons.mpr ⟨sd_q269, List.forall_mem_cons.mpr ⟨sd_q270, List.forall_mem_cons.mpr ⟨sd_q271, List.forall_mem_cons.mpr ⟨sd_q272, List.forall_mem_cons.mpr ⟨sd_q273, List.forall_mem_cons.mpr ⟨sd_q274, List.forall_mem_cons.mpr ⟨sd_q275, List.forall_mem_cons.mpr ⟨sd_q276, List.forall_mem_cons.mpr ⟨sd_q277, List.forall_mem_cons.mpr ⟨sd_q278, List.forall_mem_cons.mpr ⟨sd_q279, List.forall_mem_cons.mpr ⟨sd_q280, List.forall_mem_cons.mpr ⟨sd_q281, fun _ h => nomatch h⟩⟩⟩⟩⟩⟩⟩⟩⟩⟩⟩⟩⟩⟩⟩
def sd_mq : List Nat := [2, 3, 4, 5, 6, 7, 8, 9, 10, 11, 12, 13, 14, 15, 17, 18] ++ [19, 20, 21, 22, 23, 24, 25, 26, 27, 28, 29, 30, 31, 32, 33, 34] ++ [35, 36, 37, 38, 39, 40, 41, 42, 43, 44, 45, 46, 47, 48, 49, 50] ++ [51, 52, 53, 54, 55, 56, 57, 58, 61, 62, 63, 64, 65, 66, 67, 68] ++ [69, 70, 71, 72, 73, 74, 75, 76, 77, 78, 79, 80, 81, 82, 83, 84] ++ [85, 86, 87, 88, 90, 91, 92, 93, 94, 95, 96, 97, 98, 99, 100, 101] ++ [102, 103, 104, 105, 106, 107, 108, 109, 110, 111, 115, 116, 117, 119, 120, 121] ++ [122, 123, 124, 125, 126, 224, 225, 226, 227, 228, 229, 230, 231, 232, 233, 234] ++ [235, 236, 237, 238, 239, 240, 241, 242, 243, 244, 245, 246, 247, 248, 249, 250] ++ [251, 252, 253, 254, 255, 256, 257, 258, 259, 260, 261, 262, 263, 264, 265, 266] ++ [267, 268, 269, 270, 271, 272, 273, 274, 275, 276, 277, 278, 279, 280, 281]
theorem sd_mq_in : ∀ m, m < 282 → sd_rl m = true → m ∈ sd_mq := by decide +kernel
theorem sd_qq : ∀ m ∈ sd_mq, sd_wd m ∈ tables_1 := (List.forall_mem_append.mpr ⟨(List.forall_mem_append.mpr ⟨(List.forall_mem_append.mpr ⟨(List.forall_mem_append.mpr ⟨(List.forall_mem_append.mpr ⟨(List.forall_mem_append.mpr ⟨(List.forall_mem_append.mpr ⟨(List.forall_mem_append.mpr ⟨(List.forall_mem_append.mpr ⟨(List.forall_mem_append.mpr ⟨sd_ql0, sd_ql1⟩), sd_ql2⟩), sd_ql3⟩), sd_ql4⟩), sd_ql5⟩), sd_ql6⟩), sd_ql7⟩), sd_ql8⟩), sd_ql9⟩), sd_ql10⟩)
theorem sd_wdw (a : Nat) : goodWord (sd_wd a) = true := by
  unfold sd_wd
  split <;> rfl
theorem sd_wdg {a : Nat} (h1 : sd_rl a = true) (h : a < 282) : sd_wd a ∈ sd_gw :=
  List.mem_filter.mpr ⟨List.mem_append_left _ (List.mem_append_right _ (sd_qq a (sd_mq_in a h h1))), sd_wdw a⟩
/-- a method's words -/
def sd_mk (a : Nat) : Bool := (sd_at (sd_ii a) (.initialized (sd_y a).cls) && (decide ((sd_y a).cls ≠ "java/lang/invoke/MethodHandle") && (decide ((sd_y a).cls ≠ "java/lang/invoke/VarHandle") && (plainName (sd_y a).cls && (match sd_k a with
  | 0 => sd_at (sd_mi a) (.instanceMethod (sd_y a)) && (sd_at (sd_si a) (.selects (sd_y a).cls (sd_y a) (sd_y a)) && (match ev_oc a with
    | 99 => decide ((sd_y a).cls = "java/lang/String")
    | ci => (vwCl[ci]?).any (fun q => decide (q.1 = (sd_y a).cls))))
  | 1 => decide ((sd_y a).name = "<init>") && sd_at (sd_mi a) (.instanceMethod (sd_y a))
  | 3 => sd_at (sd_mi a) (.instanceMethod (sd_y a))
  | _ => sd_at (sd_ti a) (.static (sd_y a)))))))
theorem sd_mk_o0 : ∀ a, a < 47 → (!(sd_rl (a + 0)) || sd_mk (a + 0)) = true := by decide +kernel
theorem sd_mk_o1 : ∀ a, a < 47 → (!(sd_rl (a + 47)) || sd_mk (a + 47)) = true := by decide +kernel
theorem sd_mk_o2 : ∀ a, a < 47 → (!(sd_rl (a + 94)) || sd_mk (a + 94)) = true := by decide +kernel
theorem sd_mk_o3 : ∀ a, a < 47 → (!(sd_rl (a + 141)) || sd_mk (a + 141)) = true := by decide +kernel
theorem sd_mk_o4 : ∀ a, a < 47 → (!(sd_rl (a + 188)) || sd_mk (a + 188)) = true := by decide +kernel
theorem sd_mk_o5 : ∀ a, a < 47 → (!(sd_rl (a + 235)) || sd_mk (a + 235)) = true := by decide +kernel
theorem sd_mk_ok0 (a : Nat) (h : a < 282) : (!(sd_rl a) || sd_mk a) = true := by
  by_cases h0 : a < 47
  · have := sd_mk_o0 (a - 0) (by omega)
    rwa [show a - 0 + 0 = a by omega] at this
  by_cases h1 : a < 94
  · have := sd_mk_o1 (a - 47) (by omega)
    rwa [show a - 47 + 47 = a by omega] at this
  by_cases h2 : a < 141
  · have := sd_mk_o2 (a - 94) (by omega)
    rwa [show a - 94 + 94 = a by omega] at this
  by_cases h3 : a < 188
  · have := sd_mk_o3 (a - 141) (by omega)
    rwa [show a - 141 + 141 = a by omega] at this
  by_cases h4 : a < 235
  · have := sd_mk_o4 (a - 188) (by omega)
    rwa [show a - 188 + 188 = a by omega] at this
  by_cases h5 : a < 282
  · have := sd_mk_o5 (a - 235) (by omega)
    rwa [show a - 235 + 235 = a by omega] at this
  omega
theorem sd_mk_ok (a : Nat) (h1 : sd_rl a = true) (h : a < 282) : sd_mk a = true := by
  have := sd_mk_ok0 a h
  rw [h1] at this
  exact this
def sd_w9 (f : Cond) : Bool := sd_all.any fun x => decide (x = f) && goodWord x
theorem sd_w9_in {w : Cond} (h : sd_w9 w = true) : w ∈ sd_gw := by
  obtain ⟨x, hx, h2⟩ := List.any_eq_true.mp h
  simp only [Bool.and_eq_true, decide_eq_true_eq] at h2
  obtain ⟨rfl, hg⟩ := h2
  exact List.mem_filter.mpr ⟨hx, hg⟩
/-- the method that the place names -/
def sd_xa (a : Nat) (tb : List Nat) : Nat := match tb.getD 2 9 with
  | 5 => tb.getD 4 0
  | _ => a
def sd_kcall (mi pc a b len : Nat) (tb : List Nat) : Bool :=
  Nat.beq len 3 && ((sd_rl a && Nat.blt a 282) && (Nat.ble b (ev_ml a) && (Nat.beq (tb.getD 2 0) (tb.getD 2 9) && (
   (match tb.getD 3 9 with
    | 0 => sd_at (tb.getD 1 0 + 70) (.methodLink (sd_y mi).cls (tb.getD 0 0) (sd_y (sd_xa a tb)))
    | 1 => decide (sd_tt (tb.getD 1 0 + 70) = some (.methodLinkNest (sd_y mi).cls (tb.getD 0 0) (sd_y a) "RefreshTrader")) && (decide (sd_hh a = []) && Nat.blt (tb.getD 2 9) 3)
    | _ => decide (sd_tt (tb.getD 1 0 + 70) = some (.methodLinkNest (sd_y mi).cls (tb.getD 0 0) (sd_y a) "RefreshTraderLaw")) && (decide (sd_hh a = []) && Nat.blt (tb.getD 2 9) 3)) &&
   (match tb.getD 2 9 with
    | 0 => sd_is (sd_cc mi) pc (.invokevirtual (tb.getD 0 0)) 3 && (Nat.beq (sd_k a) 0 && (decide (sd_hh a = []) && (Nat.blt 0 b && decide ((parseMethodDescriptor (sd_y a).desc).map (fun d => d.parameters.length) = some (b - 1)))))
    | 1 => sd_is (sd_cc mi) pc (.invokespecial (tb.getD 0 0)) 3 && (Nat.beq (sd_k a) 1 && (decide (sd_hh a = []) && (Nat.blt 0 b && (decide (sd_ret a = none) && decide ((parseMethodDescriptor (sd_y a).desc).map (fun d => d.parameters.length) = some (b - 1))))))
    | 3 => sd_is (sd_cc mi) pc (.invokevirtual (tb.getD 0 0)) 3 && (decide (sd_hh a = []) && (Nat.blt 0 b && (decide ((parseMethodDescriptor (sd_y a).desc).map (fun d => d.parameters.length) = some (b - 1)) && (Nat.beq (ev_oc a) 14 &&
      (sd_w9 (.sameMethod (sd_y a).cls (sd_y a).cls (sd_y a).name (sd_y a).desc) && (sd_w9 (.selects "java/lang/StringBuilder" (sd_y a) (sd_y a)) && sd_w9 (.instanceMethod (sd_y a))))))))
    | 4 => sd_is (sd_cc mi) pc (.invokespecial (tb.getD 0 0)) 3 && (decide (sd_hh a = []) && (Nat.blt 0 b && (decide ((parseMethodDescriptor (sd_y a).desc).map (fun d => d.parameters.length) = some (b - 1)) && (Nat.beq (ev_oc a) 14 &&
      (sd_w9 (.sameMethod (sd_y a).cls (sd_y a).cls (sd_y a).name (sd_y a).desc) && (sd_w9 (.superclass (sd_y mi).cls (sd_y a).cls) && (sd_w9 (.instanceMethod (sd_y a)) && decide ((sd_y a).name ≠ "<init>"))))))))
    | 5 => sd_is (sd_cc mi) pc (.invokevirtual (tb.getD 0 0)) 3 && (decide (sd_hh a = []) && (Nat.blt 0 b && (decide ((parseMethodDescriptor (sd_y (sd_xa a tb)).desc).map (fun d => d.parameters.length) = some (b - 1)) && (Nat.beq (ev_oc a) 14 &&
      (sd_w9 (.sameMethod (sd_y (sd_xa a tb)).cls (sd_y (sd_xa a tb)).cls (sd_y (sd_xa a tb)).name (sd_y (sd_xa a tb)).desc) && (sd_w9 (.selects "java/lang/StringBuilder" (sd_y (sd_xa a tb)) (sd_y a)) && (sd_w9 (.instanceMethod (sd_y a)) && (sd_w9 (.instanceMethod (sd_y (sd_xa a tb))) &&
      (sd_rl (sd_xa a tb) && (Nat.blt (sd_xa a tb) 282 && (decide (sd_hh (sd_xa a tb) = []) && (decide ((sd_y (sd_xa a tb)).cls ≠ "java/lang/invoke/MethodHandle") && decide ((sd_y (sd_xa a tb)).cls ≠ "java/lang/invoke/VarHandle"))))))))))))) 
    | 2 => sd_is (sd_cc mi) pc (.invokestatic (tb.getD 0 0)) 3 && (Nat.beq (sd_k a) 2 && decide ((parseMethodDescriptor (sd_y a).desc).map (fun d => d.parameters.length) = some b))
    | _ => false)))))
theorem sd_s.len {g : sd_G} {n : sd_N} : ∀ {l : List ev_V} {r : List Value}, sd_s g n l r → l.length = r.length
  | [], [], _ => rfl
  | _ :: _, _ :: _, h => by simp only [List.length_cons]; rw [h.2.len]
  | [], _ :: _, h => h.elim
  | _ :: _, [], h => h.elim
theorem sd_s.app {g : sd_G} {n : sd_N} : ∀ {l l' : List ev_V} {r r' : List Value}, sd_s g n l r → sd_s g n l' r' → sd_s g n (l ++ l') (r ++ r')
  | [], _, [], _, _, h' => h'
  | _ :: _, _, _ :: _, _, h, h' => ⟨h.1, h.2.app h'⟩
  | [], _, _ :: _, _, h, _ => h.elim
  | _ :: _, _, [], _, h, _ => h.elim
theorem sd_s.rev {g : sd_G} {n : sd_N} : ∀ {l : List ev_V} {r : List Value}, sd_s g n l r → sd_s g n l.reverse r.reverse
  | [], [], _ => trivial
  | _ :: _, _ :: _, h => by
    rw [List.reverse_cons, List.reverse_cons]
    exact h.2.rev.app ⟨h.1, trivial⟩
  | [], _ :: _, h => h.elim
  | _ :: _, [], h => h.elim
theorem sd_s.take {g : sd_G} {n : sd_N} : ∀ {l : List ev_V} {r : List Value} (b : Nat), sd_s g n l r → sd_s g n (l.take b) (r.take b)
  | [], [], b, _ => by simp; exact trivial
  | _ :: _, _ :: _, 0, _ => trivial
  | _ :: _, _ :: _, b + 1, h => ⟨h.1, h.2.take b⟩
  | [], _ :: _, _, h => h.elim
  | _ :: _, [], _, h => h.elim
theorem sd_s.drop {g : sd_G} {n : sd_N} : ∀ {l : List ev_V} {r : List Value} (b : Nat), sd_s g n l r → sd_s g n (l.drop b) (r.drop b)
  | [], [], b, _ => by simp; exact trivial
  | _ :: _, _ :: _, 0, h => h
  | _ :: _, _ :: _, b + 1, h => h.2.drop b
  | [], _ :: _, _, h => h.elim
  | _ :: _, [], _, h => h.elim
theorem sd_gI (a : Nat) (h1 : sd_rl a = true) (h : a < 282) : GoodIn sd_gw (sd_ws a) := by
  intro w hw
  have hin : w ∈ sd_gw := by
    rcases List.mem_cons.mp hw with e | e
    · rw [e]; exact sd_wdg h1 h
    · exact e
  exact ⟨hin, good_of_word (List.mem_filter.mp hin).2⟩
theorem sd_goodL {a b : List Cond} (h : ∀ w ∈ a, w ∈ sd_gw) (h2 : GoodIn sd_gw b) : GoodIn sd_gw (a ++ b) := by
  intro w hw
  rcases List.mem_append.mp hw with z | z
  · exact ⟨h w z, good_of_word (List.mem_filter.mp (h w z)).2⟩
  · exact h2 w z
section SD9
variable {p : Program} {l : Launch} {e : Env} {R : Room} {s : State} {m : MethodId} {args : Array Value} {below : List Frame} {meth : Method} {c : Code} {Q : State → Prop} {g : sd_G} {mi : Nat} {res : ev_O} {μz : ev_M} {K : ev_K}
theorem sd_bl (g : sd_G) (μ : ev_M) (vs : List Value) : FrameBlind (sd_Pc g μ vs) := fun a U gg mk h => by
  obtain ⟨h1, h2, h3, h4⟩ := h
  exact ⟨h1, sd_X.same (s := U) (H := U.heap) rfl h4 h2, h3, h4⟩
theorem sd_pre (C : sd_cx p l R s m args meth c g mi) {μ : ev_M} {H : Heap} {locs : List Loc} {vs : List Value} (hS : va_S (sd_A g) s.heap H locs) (hR : sd_R g μ H) : ∀ U : State, U.heap = H → s.WarmedH U.vm → sd_Pc g μ vs vs.toArray U := by
  obtain ⟨hx, hb, hml, hown, hts, hX, -, -, hz, -⟩ := C
  intro U hU hW
  exact ⟨rfl, by rw [hU]; exact sd_X.moved hW hS.2.1 hz hX, by rw [hU]; exact hR, by rw [hU]; exact Nat.le_trans hz hS.1⟩
theorem sd_rcv {kd a : Nat} {as : List ev_V} (h2 : kd ≠ 2) (hrc : ev_rc kd a as = true) : ∃ (r i : Nat) (rest : List ev_V), as = .inr (.inr (r, i)) :: rest ∧ ((r = 100 ∧ ev_oc a = 99) ∨ (r ≤ 199 ∧ ev_kn r = (0, ev_oc a)) ∨ (199 < r ∧ ev_ln r = (0, ev_oc a))) := by
  have e : ev_rc kd a as = ev_rc 0 a as := by
    unfold ev_rc
    split
    · exact absurd rfl h2
    · rfl
  rw [e] at hrc
  match as, hrc with
  | .inr (.inr (r, i)) :: rest, hrc =>
    refine ⟨r, i, rest, rfl, ?_⟩
    have hrc : (bif Nat.beq r 100 then Nat.beq (ev_oc a) 99 else bif Nat.ble r 199 then Nat.beq (ev_kn r).1 0 && Nat.beq (ev_kn r).2 (ev_oc a) else Nat.beq (ev_ln r).1 0 && Nat.beq (ev_ln r).2 (ev_oc a)) = true := hrc
    cases h100 : Nat.beq r 100 with
    | true =>
      rw [h100] at hrc
      exact Or.inl ⟨Nat.eq_of_beq_eq_true h100, Nat.eq_of_beq_eq_true hrc⟩
    | false =>
      rw [h100] at hrc
      cases h199 : Nat.ble r 199 with
      | true =>
        rw [h199] at hrc
        simp only [cond_false, cond_true, Bool.and_eq_true] at hrc
        exact Or.inr (Or.inl ⟨Nat.le_of_ble_eq_true h199, Prod.ext (Nat.eq_of_beq_eq_true hrc.1) (Nat.eq_of_beq_eq_true hrc.2)⟩)
      | false =>
        rw [h199] at hrc
        simp only [cond_false, Bool.and_eq_true] at hrc
        refine Or.inr (Or.inr ⟨Nat.not_le.mp fun z => ?_, Prod.ext (Nat.eq_of_beq_eq_true hrc.1) (Nat.eq_of_beq_eq_true hrc.2)⟩)
        rw [Nat.ble_eq.mpr z] at h199
        cases h199
  | [], hrc => cases hrc
  | .inl _ :: _, hrc => cases hrc
  | .inr (.inl _) :: _, hrc => cases hrc
/-- the name of a class by its number: 99 a text -/
def sd_cnm (k : Nat) : String := match k with
  | 99 => "java/lang/String"
  | k => ((vwCl[k]?).map (fun q => q.1)).getD ""
theorem sd_cnm_q {k : Nat} {q : vw_C} (h : vwCl[k]? = some q) : sd_cnm k = q.1 := by
  have hlt := sd_ci h
  unfold sd_cnm
  split
  · exact absurd hlt (by decide)
  · rw [h]; rfl
theorem sd_recv (C : sd_cx p l R s m args meth c g mi) {kd a : Nat} {n : sd_N} {as : List ev_V} {vs : List Value} {μ : ev_M} {H : Heap} {locs : List Loc} (hn : n = sd_nn μ) (h2 : kd ≠ 2) (hrc : ev_rc kd a as = true) (hs : sd_s g n as vs) (hS : va_S (sd_A g) s.heap H locs) (hR : sd_R g μ H) :
    ∃ (b : Nat) (vs' : List Value), vs = .ref b :: vs' ∧ ∃ cellB : Cell, H[b]? = some cellB ∧ cellB.vm.isStatics = false ∧ s.vm.findClass (sd_cnm (ev_oc a)) = some cellB.cls := by
  obtain ⟨hx, hb, hml, hown, hts, hX, -⟩ := C
  subst hn
  obtain ⟨r, i, rest, rfl, ⟨er, eo⟩ | ⟨hr9, hkn⟩ | ⟨hr9, hkn⟩⟩ := sd_rcv h2 hrc
  · subst er
    obtain ⟨vs', rfl, hg, hs'⟩ := hs.consR (by decide)
    obtain ⟨cell, c1, c2, c3, -⟩ := (hX.2.2.2.1 i (hg.2.1 (Or.inl rfl))).1.kept hS.2.1
    exact ⟨_, _, rfl, cell, c1, c2, by rw [eo]; exact c3⟩
  · have hr : r < 62 := sd_kn62 (by rw [hkn]; show 0 < 6; decide)
    obtain ⟨vs', rfl, hg, hs'⟩ := hs.consR (by omega)
    obtain ⟨q, hq, cell, q1, q2, q3, q4⟩ := sd_c0 (hR.1 r i hr (sd_al62 hg hr)) hkn
    have hfc := (hX.1.1 _ _ hq).2.1
    exact ⟨_, _, rfl, cell, q1, by rw [q3]; rfl, by rw [sd_cnm_q hq, q2]; exact hfc⟩
  · obtain ⟨vs', rfl, hg, hs'⟩ := hs.consK (sd_kr2 hr9)
    obtain ⟨q, hq, cell, q1, q2, q3, q4⟩ := sd_l0 (hR.2.2.2.2.2.2.2.1 r i (hg.2.2.2.2 hr9)) hkn
    have hfc := (hX.1.1 _ _ hq).2.1
    exact ⟨_, _, rfl, cell, q1, by rw [q3]; rfl, by rw [sd_cnm_q hq, q2]; exact hfc⟩
/-- every call: it returns as told, or throws as told -/
theorem sd_call (C : sd_cx p l R s m args meth c g mi) {call : ev_F → ev_M → ev_T} (hP : sd_P l g call) {pc a b len : Nat} {tb : List Nat} (hck : sd_kcall mi pc a b len tb = true) {st : List ev_V} {μ μ1 : ev_M} {o1 : ev_O} {cl sl : Nat} {H : Heap} {locs : List Loc} {vl : Array Slot} {vs : List Value}
    (hb : b ≤ st.length) (hwd : ev_wd (st.drop b) ≤ 8) (hfr : ev_fr a < ev_fr mi) (hlr : 19 + ev_ml a + ev_lr a ≤ ev_lr mi) (hrc : ev_rc (tb.getD 2 0) a ((st.take b).reverse) = true) (hpl : ev_pl ((st.take b).reverse) = true) (hmc : cl + ev_mc a ≤ ev_mc mi) (hms : sl + ev_ms a ≤ ev_ms mi)
    (hc : call (a, 0, (st.take b).reverse, [], 0, 0) μ = some (o1, μ1)) (hl : vl.size = ev_ml mi) (hs : sd_s g (sd_nn μ) st vs) (hS : va_S (sd_A g) s.heap H locs) (hR : sd_R g μ H) :
    sd_le (sd_nn μ) (sd_nn μ1) ∧ ((∃ z, o1 = .inl z) → va_Run p l e R s m args below meth c H locs cl sl (ev_mc a) (ev_ms a) (F0 m pc vl vs) (vs.drop b) (sd_Qc g o1 μ1 #[]) (sd_A g)) ∧
    ((tb.getD 2 9 = 0 ∧ tb.getD 3 9 = 0) → vx_Run p l e R s m args below meth c H locs cl sl (ev_mc a) (ev_ms a) (F0 m pc vl vs) (vs.drop b) (sd_Qc g o1 μ1 #[]) (sd_XC g o1 μ1) (sd_A g)) := by
  have C0 := C
  obtain ⟨hx, hbc, hml, hown, hts, hX, hlk, htr, hz, ⟨hrf, hrl, hrcc, hrss⟩, -⟩ := C
  simp only [sd_kcall, Bool.and_eq_true] at hck
  obtain ⟨hlen, ha, hbm, hkd, hlink, hkind⟩ := hck
  have ha1 : sd_rl a = true := ha.1
  have ha : a < 282 := Nat.le_of_ble_eq_true ha.2
  have hbm : b ≤ ev_ml a := Nat.le_of_ble_eq_true hbm
  have hkd : tb.getD 2 0 = tb.getD 2 9 := Nat.eq_of_beq_eq_true hkd
  rw [hkd] at hrc
  have hm := sd_mk_ok a ha1 ha
  simp only [sd_mk, Bool.and_eq_true, decide_eq_true_eq] at hm
  obtain ⟨hmi, hmh, hmv, hmp, hmk⟩ := hm
  have hst := (hs.take b).rev
  have hlen2 : ((st.take b).reverse).length ≤ ev_ml a := by simp; omega
  obtain ⟨hmono, hM⟩ := hP a _ μ o1 μ1 ((vs.take b).reverse) ha1 ha hlen2 hpl hc hst
  have hvl := hs.len
  have hAl : ((vs.take b).reverse).length = b := by simp; omega
  have hW : 2 * (F0 m pc vl vs).monitorRoom + ((vs.drop b).map fun v => v.category).sum ≤ 8 := by
    have := sd_wdc (hs.drop b)
    show 2 * 0 + _ ≤ 8
    omega
  have hf : cl + ev_mc a ≤ R.cells ∧ sl + ev_ms a ≤ R.slots := ⟨by rw [hrcc]; exact hmc, by rw [hrss]; exact hms⟩
  have hroom : (sd_rm a).frames + 1 ≤ R.frames ∧ 8 + (ev_ml a + 11) + (sd_rm a).locals ≤ R.locals := by
    rw [hrf, hrl]
    show ev_fr a + 1 ≤ ev_fr mi ∧ 8 + (ev_ml a + 11) + ev_lr a ≤ ev_lr mi
    omega
  have CF : CallFix p m c (sd_cc mi) (ev_ml mi) s args sd_gw (sd_y mi).cls := ⟨hx, hbc, hml, hown, hts⟩
  have hpre := sd_pre C0 (vs := (vs.take b).reverse) hS hR
  have hini := hts _ (sd_at_in hmi)
  have hsplit : vs = ((vs.take b).reverse).reverse ++ vs.drop b := by rw [List.reverse_reverse, List.take_append_drop]
  have hMet : (∃ z, o1 = .inl z) → Met l (sd_y a) (sd_ws a) (sd_rm a) (sd_Pc g μ ((vs.take b).reverse)) (sd_Qc g o1 μ1) (ev_mc a) (ev_ms a) (sd_A g) := fun ⟨z, hz⟩ =>
    MetFree.mono hM (fun _ _ h => h) (fun _ _ _ _ _ h => h) (fun a st o t _ h => h.elim id (fun ⟨q, _, E, ce, L, hx, _⟩ => by
      obtain ⟨⟨e9, he, -⟩, -⟩ := hx
      rw [hz] at he
      cases he))
  refine ⟨hmono, ?_⟩
  split at hkind
  · -- virtual
    rename_i hk0
    simp only [Bool.and_eq_true, decide_eq_true_eq] at hkind
    obtain ⟨hd, hkk, hnil, hb0, hdesc⟩ := hkind
    have hkk := Nat.eq_of_beq_eq_true hkk
    have hb0 : 0 < b := Nat.le_of_ble_eq_true hb0
    rw [hkk] at hmk
    simp only [Bool.and_eq_true] at hmk
    obtain ⟨hin, hse, hoc⟩ := hmk
    rw [hk0] at hrc
    obtain ⟨bb, As, hAs, hcell⟩ := sd_recv C0 (μ := μ) rfl (by decide) hrc hst hS hR
    have hnm : sd_cnm (ev_oc a) = (sd_y a).cls := by
      split at hoc
      · rename_i z
        rw [z]
        exact (of_decide_eq_true hoc).symm
      · cases hq : vwCl[ev_oc a]? with
        | none => rw [hq] at hoc; cases hoc
        | some q =>
          rw [hq] at hoc
          rw [sd_cnm_q hq]
          exact of_decide_eq_true hoc
    rw [hnm] at hcell
    have exa : sd_xa a tb = a := by unfold sd_xa; simp only [hk0]
    rw [exa] at hlink
    rw [hAs] at hsplit hpre hMet hM hAl
    have hstack : (F0 m pc vl vs).stack = As.reverse ++ .ref bb :: vs.drop b := hsplit.trans (by rw [List.reverse_cons, List.append_assoc]; rfl)
    have hn : As.length = b - 1 := by simp only [List.length_cons] at hAl; omega
    have hw : sd_ws a = Cond.code (sd_y a) (sd_cc a) (ev_ml a) (sd_ret a) :: sd_gw := by unfold sd_ws; rw [sd_wd_nil hnil]
    have hin' := hts _ (sd_at_in hin)
    have hse' := hts _ (sd_at_in hse)
    split at hlink
    · have cb : CallW R s args (sd_y mi).cls (sd_y a).cls (tb.getD 0 0) (sd_y a) (sd_cc a) (ev_ml a) (sd_ret a) (sd_ws a) (sd_rm a) (ev_mc a) (ev_ms a) (b - 1) :=
        ⟨callB_of (b - 1) hts (sd_gI a ha1 ha) hw rfl rfl hini (hts _ (sd_at_in hlink)) ⟨hmh, hmv, hdesc⟩ hroom, hin', hse'⟩
      exact ⟨fun z => va_runV CF (hMet z) cb ⟨sd_bl g μ _, hcell, hpre⟩ rfl hn hl hstack hW (sd_is_eq hd) hf, fun _ => vx_runV CF hM cb ⟨sd_bl g μ _, hcell, hpre⟩ rfl hn hl hstack hW (sd_is_eq hd) hf⟩
    · rename_i hne
      simp only [Bool.and_eq_true, decide_eq_true_eq] at hlink
      have cb := va_cnB (R := R) (rm := sd_rm a) (mc := ev_mc a) (ms := ev_ms a) (b - 1) hts (sd_gI a ha1 ha) hw rfl rfl (hX.2.1 _ (sd_notux (sd_tt_in hlink.1) rfl) rfl) hini ⟨hmh, hmv, hdesc⟩ hroom
      exact ⟨fun z => va_runVN CF (hMet z) ⟨cb, hin', hse'⟩ ⟨sd_bl g μ _, hcell, hpre⟩ rfl hn hl hstack hW (sd_is_eq hd) hf, fun z => absurd (hne.symm.trans z.2) (by decide)⟩
    · rename_i hne hne1
      simp only [Bool.and_eq_true, decide_eq_true_eq] at hlink
      have cb := va_cnB (R := R) (rm := sd_rm a) (mc := ev_mc a) (ms := ev_ms a) (b - 1) hts (sd_gI a ha1 ha) hw rfl rfl (hX.2.1 _ (sd_notux (sd_tt_in hlink.1) rfl) rfl) hini ⟨hmh, hmv, hdesc⟩ hroom
      exact ⟨fun z => va_runVN CF (hMet z) ⟨cb, hin', hse'⟩ ⟨sd_bl g μ _, hcell, hpre⟩ rfl hn hl hstack hW (sd_is_eq hd) hf, fun z => absurd z.2 hne⟩
  · -- special
    rename_i hk1
    simp only [Bool.and_eq_true, decide_eq_true_eq] at hkind
    obtain ⟨hd, hkk, hnil, hb0, hret, hdesc⟩ := hkind
    have hkk := Nat.eq_of_beq_eq_true hkk
    have hb0 : 0 < b := Nat.le_of_ble_eq_true hb0
    rw [hkk] at hmk
    simp only [Bool.and_eq_true, decide_eq_true_eq] at hmk
    obtain ⟨hname, hin⟩ := hmk
    rw [hk1] at hrc
    obtain ⟨bb, As, hAs⟩ : ∃ (bb : Nat) (As : List Value), (vs.take b).reverse = .ref bb :: As := by
      obtain ⟨r, i, rest, he, ⟨er, eo⟩ | ⟨hr9, hkn⟩ | ⟨hr9, hkn⟩⟩ := sd_rcv (by decide) hrc
      · rw [he] at hst
        subst er
        obtain ⟨vs', e9, -⟩ := hst.consR (by decide)
        exact ⟨_, _, e9⟩
      · rw [he] at hst
        have hr : r < 62 := sd_kn62 (by rw [hkn]; show 0 < 6; decide)
        obtain ⟨vs', e9, -⟩ := hst.consR (by omega)
        exact ⟨_, _, e9⟩
      · rw [he] at hst
        obtain ⟨vs', e9, -⟩ := hst.consK (sd_kr2 hr9)
        exact ⟨_, _, e9⟩
    have exa : sd_xa a tb = a := by unfold sd_xa; simp only [hk1]
    rw [exa] at hlink
    rw [hAs] at hsplit hpre hMet hM hAl
    have hstack : (F0 m pc vl vs).stack = As.reverse ++ .ref bb :: vs.drop b := hsplit.trans (by rw [List.reverse_cons, List.append_assoc]; rfl)
    have hn : As.length = b - 1 := by simp only [List.length_cons] at hAl; omega
    have hw : sd_ws a = Cond.code (sd_y a) (sd_cc a) (ev_ml a) none :: sd_gw := by unfold sd_ws; rw [sd_wd_nil hnil, hret]
    have hin' := hts _ (sd_at_in hin)
    refine ⟨fun z => ?_, fun z => absurd (hk1.symm.trans z.1) (by decide)⟩
    split at hlink
    · exact va_runI CF (hMet z) ⟨callB_of (b - 1) hts (sd_gI a ha1 ha) hw rfl rfl hini (hts _ (sd_at_in hlink)) ⟨hmh, hmv, hdesc⟩ hroom, hname, hin'⟩ ⟨sd_bl g μ _, hpre⟩ rfl hn hl hstack hW (sd_is_eq hd) hf
    · simp only [Bool.and_eq_true, decide_eq_true_eq] at hlink
      have cb := va_cnB (R := R) (rm := sd_rm a) (mc := ev_mc a) (ms := ev_ms a) (b - 1) hts (sd_gI a ha1 ha) hw rfl rfl (hX.2.1 _ (sd_notux (sd_tt_in hlink.1) rfl) rfl) hini ⟨hmh, hmv, hdesc⟩ hroom
      exact va_runIN CF (hMet z) ⟨cb, hname, hin'⟩ ⟨sd_bl g μ _, hpre⟩ rfl hn hl hstack hW (sd_is_eq hd) hf
    · simp only [Bool.and_eq_true, decide_eq_true_eq] at hlink
      have cb := va_cnB (R := R) (rm := sd_rm a) (mc := ev_mc a) (ms := ev_ms a) (b - 1) hts (sd_gI a ha1 ha) hw rfl rfl (hX.2.1 _ (sd_notux (sd_tt_in hlink.1) rfl) rfl) hini ⟨hmh, hmv, hdesc⟩ hroom
      exact va_runIN CF (hMet z) ⟨cb, hname, hin'⟩ ⟨sd_bl g μ _, hpre⟩ rfl hn hl hstack hW (sd_is_eq hd) hf
  · -- an inherited method
    rename_i hk3
    simp only [Bool.and_eq_true, decide_eq_true_eq] at hkind
    obtain ⟨hd, hnil, hb0, hdesc, hoc, h6, h7, h8⟩ := hkind
    have hb0 : 0 < b := Nat.le_of_ble_eq_true hb0
    have hoc := Nat.eq_of_beq_eq_true hoc
    rw [hk3] at hrc
    obtain ⟨bb, As, hAs, hcell⟩ := sd_recv C0 (μ := μ) rfl (by decide) hrc hst hS hR
    have hnm : sd_cnm (ev_oc a) = "java/lang/StringBuilder" := by rw [hoc]; rfl
    rw [hnm] at hcell
    rw [hAs] at hsplit hpre hMet hM hAl
    have hstack : (F0 m pc vl vs).stack = As.reverse ++ .ref bb :: vs.drop b := hsplit.trans (by rw [List.reverse_cons, List.append_assoc]; rfl)
    have hn : As.length = b - 1 := by simp only [List.length_cons] at hAl; omega
    have hw : sd_ws a = Cond.code (sd_y a) (sd_cc a) (ev_ml a) (sd_ret a) :: sd_gw := by unfold sd_ws; rw [sd_wd_nil hnil]
    have hlk : sd_at (tb.getD 1 0 + 70) (.methodLink (sd_y mi).cls (tb.getD 0 0) (sd_y (sd_xa a tb))) = true := by
      split at hlink
      · exact hlink
      · rw [hk3] at hlink
        simp only [Bool.and_eq_true] at hlink
        exact absurd hlink.2.2 (by decide)
      · rw [hk3] at hlink
        simp only [Bool.and_eq_true] at hlink
        exact absurd hlink.2.2 (by decide)
    have hgi := sd_gI a ha1 ha
    have exa : sd_xa a tb = a := by unfold sd_xa; simp only [hk3]
    rw [exa] at hlk
    have hG : GoodIn sd_gw (va_wsU (sd_y mi).cls (tb.getD 0 0) "java/lang/StringBuilder" (sd_y a).cls (sd_y a) (sd_y a) (sd_ws a)) := sd_goodL (List.forall_mem_cons.mpr ⟨sd_at_in hlk, List.forall_mem_cons.mpr ⟨sd_w9_in h6, List.forall_mem_cons.mpr ⟨sd_w9_in h7, List.forall_mem_cons.mpr ⟨sd_w9_in h8, List.forall_mem_cons.mpr ⟨sd_at_in hmi, fun _ h => nomatch h⟩⟩⟩⟩⟩) hgi
    have cb := va_cwU (R := R) (rm := sd_rm a) (mc := ev_mc a) (ms := ev_ms a) (b - 1) hts hG hw rfl rfl rfl ⟨hmh, hmv, hdesc⟩ hroom
    exact ⟨fun z => va_runU CF (hMet z) cb ⟨sd_bl g μ _, hcell, hpre⟩ rfl hn hl hstack hW (sd_is_eq hd) hf, fun z => absurd (hk3.symm.trans z.1) (by decide)⟩
  · -- the superclass's own
    rename_i hk4
    simp only [Bool.and_eq_true, decide_eq_true_eq] at hkind
    obtain ⟨hd, hnil, hb0, hdesc, hoc, h6, h7, h8, h9⟩ := hkind
    have hb0 : 0 < b := Nat.le_of_ble_eq_true hb0
    have hoc := Nat.eq_of_beq_eq_true hoc
    rw [hk4] at hrc
    obtain ⟨bb, As, hAs, hcell⟩ := sd_recv C0 (μ := μ) rfl (by decide) hrc hst hS hR
    have hnm : sd_cnm (ev_oc a) = "java/lang/StringBuilder" := by rw [hoc]; rfl
    rw [hnm] at hcell
    rw [hAs] at hsplit hpre hMet hM hAl
    have hstack : (F0 m pc vl vs).stack = As.reverse ++ .ref bb :: vs.drop b := hsplit.trans (by rw [List.reverse_cons, List.append_assoc]; rfl)
    have hn : As.length = b - 1 := by simp only [List.length_cons] at hAl; omega
    have hw : sd_ws a = Cond.code (sd_y a) (sd_cc a) (ev_ml a) (sd_ret a) :: sd_gw := by unfold sd_ws; rw [sd_wd_nil hnil]
    have hlk : sd_at (tb.getD 1 0 + 70) (.methodLink (sd_y mi).cls (tb.getD 0 0) (sd_y (sd_xa a tb))) = true := by
      split at hlink
      · exact hlink
      · rw [hk4] at hlink
        simp only [Bool.and_eq_true] at hlink
        exact absurd hlink.2.2 (by decide)
      · rw [hk4] at hlink
        simp only [Bool.and_eq_true] at hlink
        exact absurd hlink.2.2 (by decide)
    have hgi := sd_gI a ha1 ha
    have exa : sd_xa a tb = a := by unfold sd_xa; simp only [hk4]
    rw [exa] at hlk
    have hG : GoodIn sd_gw (va_wsSU (sd_y mi).cls (tb.getD 0 0) (sd_y a) (sd_ws a)) := sd_goodL (List.forall_mem_cons.mpr ⟨sd_at_in hlk, List.forall_mem_cons.mpr ⟨sd_w9_in h6, List.forall_mem_cons.mpr ⟨sd_w9_in h7, List.forall_mem_cons.mpr ⟨sd_w9_in h8, List.forall_mem_cons.mpr ⟨sd_at_in hmi, fun _ h => nomatch h⟩⟩⟩⟩⟩) hgi
    have cb := va_cwSU (R := R) (rm := sd_rm a) (mc := ev_mc a) (ms := ev_ms a) (b - 1) hts hG hw rfl rfl ⟨h9, hdesc⟩ hroom
    exact ⟨fun z => va_runSU (hX.1.1 14 _ rfl).2 CF (hMet z) cb ⟨sd_bl g μ _, hcell, hpre⟩ rfl hn hl hstack hW (sd_is_eq hd) hf, fun z => absurd (hk4.symm.trans z.1) (by decide)⟩
  · -- a method over another
    rename_i hk5
    simp only [Bool.and_eq_true, decide_eq_true_eq] at hkind
    obtain ⟨hd, hnil, hb0, hdesc, hoc, h6, h7, h8, h9, hx1, hx2, hx3, hx4, hx5⟩ := hkind
    have hb0 : 0 < b := Nat.le_of_ble_eq_true hb0
    have hoc := Nat.eq_of_beq_eq_true hoc
    rw [hk5] at hrc
    obtain ⟨bb, As, hAs, hcell⟩ := sd_recv C0 (μ := μ) rfl (by decide) hrc hst hS hR
    have hnm : sd_cnm (ev_oc a) = "java/lang/StringBuilder" := by rw [hoc]; rfl
    rw [hnm] at hcell
    rw [hAs] at hsplit hpre hMet hM hAl
    have hstack : (F0 m pc vl vs).stack = As.reverse ++ .ref bb :: vs.drop b := hsplit.trans (by rw [List.reverse_cons, List.append_assoc]; rfl)
    have hn : As.length = b - 1 := by simp only [List.length_cons] at hAl; omega
    have hw : sd_ws a = Cond.code (sd_y a) (sd_cc a) (ev_ml a) (sd_ret a) :: sd_gw := by unfold sd_ws; rw [sd_wd_nil hnil]
    have hlk : sd_at (tb.getD 1 0 + 70) (.methodLink (sd_y mi).cls (tb.getD 0 0) (sd_y (sd_xa a tb))) = true := by
      split at hlink
      · exact hlink
      · rw [hk5] at hlink
        simp only [Bool.and_eq_true] at hlink
        exact absurd hlink.2.2 (by decide)
      · rw [hk5] at hlink
        simp only [Bool.and_eq_true] at hlink
        exact absurd hlink.2.2 (by decide)
    have hgi := sd_gI a ha1 ha
    have hx2 : sd_xa a tb < 282 := Nat.le_of_ble_eq_true hx2
    have hG : GoodIn sd_gw (va_wsO (sd_y mi).cls (tb.getD 0 0) "java/lang/StringBuilder" (sd_y (sd_xa a tb)).cls (sd_y (sd_xa a tb)) (sd_y a) (sd_ws a)) := sd_goodL (List.forall_mem_cons.mpr ⟨sd_at_in hlk, List.forall_mem_cons.mpr ⟨sd_w9_in h6, List.forall_mem_cons.mpr ⟨sd_w9_in h9, List.forall_mem_cons.mpr ⟨sd_w9_in h7, List.forall_mem_cons.mpr ⟨sd_w9_in h8, List.forall_mem_cons.mpr ⟨sd_at_in hmi, fun _ h => nomatch h⟩⟩⟩⟩⟩⟩) hgi
    have h0 : Cond.code (sd_y (sd_xa a tb)) (sd_cc (sd_xa a tb)) (ev_ml (sd_xa a tb)) (sd_ret (sd_xa a tb)) ∈ sd_gw := by
      have := sd_wdg hx1 hx2
      rwa [sd_wd_nil hx3] at this
    have cb := va_cwO (R := R) (rm := sd_rm a) (mc := ev_mc a) (ms := ev_ms a) (b - 1) hts hG hw rfl rfl h0 ⟨hx4, hx5, hdesc⟩ hroom
    exact ⟨fun z => va_runU CF (hMet z) cb ⟨sd_bl g μ _, hcell, hpre⟩ rfl hn hl hstack hW (sd_is_eq hd) hf, fun z => absurd (hk5.symm.trans z.1) (by decide)⟩
  · -- static
    rename_i hk2
    simp only [Bool.and_eq_true, decide_eq_true_eq] at hkind
    obtain ⟨hd, hkk, hdesc⟩ := hkind
    have hkk := Nat.eq_of_beq_eq_true hkk
    rw [hkk] at hmk
    have hstat := hts _ (sd_at_in hmk)
    have hstack : (F0 m pc vl vs).stack = ((vs.take b).reverse).reverse ++ vs.drop b := hsplit
    have exa : sd_xa a tb = a := by unfold sd_xa; simp only [hk2]
    rw [exa] at hlink
    refine ⟨fun z => ?_, fun z => absurd (hk2.symm.trans z.1) (by decide)⟩
    by_cases hnil : sd_hh a = []
    · have hw : sd_ws a = Cond.code (sd_y a) (sd_cc a) (ev_ml a) (sd_ret a) :: sd_gw := by unfold sd_ws; rw [sd_wd_nil hnil]
      split at hlink
      · exact va_runS (As := (vs.take b).reverse) CF (hMet z) ⟨callB_of b hts (sd_gI a ha1 ha) hw rfl rfl hini (hts _ (sd_at_in hlink)) ⟨hmh, hmv, hdesc⟩ hroom, hstat⟩ ⟨sd_bl g μ _, hpre⟩ rfl hAl hl hstack hW (sd_is_eq hd) hf
      · simp only [Bool.and_eq_true, decide_eq_true_eq] at hlink
        have cb := va_cnB (R := R) (rm := sd_rm a) (mc := ev_mc a) (ms := ev_ms a) b hts (sd_gI a ha1 ha) hw rfl rfl (hX.2.1 _ (sd_notux (sd_tt_in hlink.1) rfl) rfl) hini ⟨hmh, hmv, hdesc⟩ hroom
        exact va_runSN (As := (vs.take b).reverse) CF (hMet z) ⟨cb, hstat, trivial⟩ ⟨sd_bl g μ _, hpre⟩ rfl hAl hl hstack hW (sd_is_eq hd) hf
      · simp only [Bool.and_eq_true, decide_eq_true_eq] at hlink
        have cb := va_cnB (R := R) (rm := sd_rm a) (mc := ev_mc a) (ms := ev_ms a) b hts (sd_gI a ha1 ha) hw rfl rfl (hX.2.1 _ (sd_notux (sd_tt_in hlink.1) rfl) rfl) hini ⟨hmh, hmv, hdesc⟩ hroom
        exact va_runSN (As := (vs.take b).reverse) CF (hMet z) ⟨cb, hstat, trivial⟩ ⟨sd_bl g μ _, hpre⟩ rfl hAl hl hstack hW (sd_is_eq hd) hf
    · split at hlink
      · have hcw : Cond.codeWith (sd_y a) (sd_cc a) (ev_ml a) (sd_ret a) (sd_hh a) ∈ sd_ws a := by unfold sd_ws; rw [sd_wd_con hnil]; exact List.mem_cons_self
        have hcw2 : Cond.codeWith (sd_y a) (sd_cc a) (ev_ml a) (sd_ret a) (sd_hh a) ∈ sd_gw := (sd_gI a ha1 ha _ hcw).1
        have cw : vx_CSW R s args (sd_y mi).cls (tb.getD 0 0) (sd_y a) (sd_cc a) (ev_ml a) (sd_ret a) (sd_hh a) (sd_ws a) (sd_rm a) (ev_mc a) (ev_ms a) b :=
          ⟨⟨rfl, rfl, hroom.1, hroom.2, pay_in hts (sd_gI a ha1 ha), hcw⟩, hts _ hcw2, hini, ⟨hmh, hmv⟩, fun sig h => by
            have h2 := hdesc
            rw [h] at h2
            exact (Option.some.inj h2).symm, hts _ (sd_at_in hlink), hstat⟩
        exact vx_runSW (As := (vs.take b).reverse) CF (hMet z) cw ⟨sd_bl g μ _, hpre⟩ rfl hAl hl hstack hW (sd_is_eq hd) hf
      · simp only [Bool.and_eq_true, decide_eq_true_eq] at hlink
        exact absurd hlink.2.1 hnil
      · simp only [Bool.and_eq_true, decide_eq_true_eq] at hlink
        exact absurd hlink.2.1 hnil
  · cases hkind
end SD9
