/-! SOUNDNESS, 10: no code beyond the end -/
theorem sd_tb {α : Type} {pc N k : Nat} {x y : α} (h : N ≤ pc) (hk : Nat.blt k N = true) : (bif Nat.ble pc k then x else y) = y := by
  have hk : k < N := Nat.le_of_ble_eq_true hk
  cases e : Nat.ble pc k with
  | false => rfl
  | true => have := Nat.le_of_ble_eq_true e; omega
theorem sd_tq {α : Type} {pc N k : Nat} {x y : α} (h : N ≤ pc) (hk : Nat.blt k N = true) : (bif Nat.beq pc k then x else y) = y := by
  have hk : k < N := Nat.le_of_ble_eq_true hk
  cases e : Nat.beq pc k with
  | false => rfl
  | true => have := Nat.eq_of_beq_eq_true e; omega
theorem sd_z0 {pc : Nat} (h : 11 ≤ pc) : ev_c0 pc = none := ((sd_tb h rfl).trans ((sd_tb h rfl).trans ((sd_tb h rfl).trans (sd_tq h rfl))))
theorem sd_z1 {pc : Nat} (h : 11 ≤ pc) : ev_c1 pc = none := ((sd_tb h rfl).trans ((sd_tb h rfl).trans ((sd_tb h rfl).trans (sd_tq h rfl))))
theorem sd_z2 {pc : Nat} (h : 11 ≤ pc) : ev_c2 pc = none := ((sd_tb h rfl).trans ((sd_tb h rfl).trans ((sd_tb h rfl).trans (sd_tq h rfl))))
theorem sd_z3 {pc : Nat} (h : 25 ≤ pc) : ev_c3 pc = none := ((sd_tb h rfl).trans ((sd_tb h rfl).trans ((sd_tb h rfl).trans ((sd_tb h rfl).trans (sd_tq h rfl)))))
theorem sd_z4 {pc : Nat} (h : 15 ≤ pc) : ev_c4 pc = none := ((sd_tb h rfl).trans ((sd_tb h rfl).trans ((sd_tb h rfl).trans (sd_tq h rfl))))
theorem sd_z5 {pc : Nat} (h : 19 ≤ pc) : ev_c5 pc = none := ((sd_tb h rfl).trans ((sd_tb h rfl).trans ((sd_tb h rfl).trans ((sd_tb h rfl).trans (sd_tq h rfl)))))
theorem sd_z6 {pc : Nat} (h : 10 ≤ pc) : ev_c6 pc = none := ((sd_tb h rfl).trans ((sd_tb h rfl).trans ((sd_tb h rfl).trans (sd_tq h rfl))))
theorem sd_z7 {pc : Nat} (h : 15 ≤ pc) : ev_c7 pc = none := ((sd_tb h rfl).trans ((sd_tb h rfl).trans ((sd_tb h rfl).trans ((sd_tb h rfl).trans (sd_tq h rfl)))))
theorem sd_z8 {pc : Nat} (h : 21 ≤ pc) : ev_c8 pc = none := ((sd_tb h rfl).trans ((sd_tb h rfl).trans ((sd_tb h rfl).trans ((sd_tb h rfl).trans (sd_tq h rfl)))))
theorem sd_z9 {pc : Nat} (h : 18 ≤ pc) : ev_c9 pc = none := ((sd_tb h rfl).trans ((sd_tb h rfl).trans ((sd_tb h rfl).trans ((sd_tb h rfl).trans (sd_tq h rfl)))))
theorem sd_z10 {pc : Nat} (h : 54 ≤ pc) : ev_c10 pc = none := ((sd_tb h rfl).trans ((sd_tb h rfl).trans ((sd_tb h rfl).trans ((sd_tb h rfl).trans ((sd_tb h rfl).trans (sd_tq h rfl))))))
theorem sd_z11 {pc : Nat} (h : 57 ≤ pc) : ev_c11 pc = none := ((sd_tb h rfl).trans ((sd_tb h rfl).trans ((sd_tb h rfl).trans ((sd_tb h rfl).trans ((sd_tb h rfl).trans (sd_tq h rfl))))))
theorem sd_z12 {pc : Nat} (h : 78 ≤ pc) : ev_c12 pc = none := ((sd_tb h rfl).trans ((sd_tb h rfl).trans ((sd_tb h rfl).trans ((sd_tb h rfl).trans ((sd_tb h rfl).trans ((sd_tb h rfl).trans (sd_tq h rfl)))))))
theorem sd_z13 {pc : Nat} (h : 41 ≤ pc) : ev_c13 pc = none := ((sd_tb h rfl).trans ((sd_tb h rfl).trans ((sd_tb h rfl).trans ((sd_tb h rfl).trans ((sd_tb h rfl).trans (sd_tq h rfl))))))
theorem sd_z14 {pc : Nat} (h : 6 ≤ pc) : ev_c14 pc = none := ((sd_tb h rfl).trans ((sd_tb h rfl).trans (sd_tq h rfl)))
theorem sd_z15 {pc : Nat} (h : 60 ≤ pc) : ev_c15 pc = none := ((sd_tb h rfl).trans ((sd_tb h rfl).trans ((sd_tb h rfl).trans ((sd_tb h rfl).trans ((sd_tb h rfl).trans ((sd_tb h rfl).trans (sd_tq h rfl)))))))
theorem sd_z16 {pc : Nat} (h : 61 ≤ pc) : ev_c16 pc = none := ((sd_tb h rfl).trans ((sd_tb h rfl).trans ((sd_tb h rfl).trans ((sd_tb h rfl).trans ((sd_tb h rfl).trans ((sd_tb h rfl).trans (sd_tq h rfl)))))))
theorem sd_z17 {pc : Nat} (h : 14 ≤ pc) : ev_c17 pc = none := ((sd_tb h rfl).trans ((sd_tb h rfl).trans ((sd_tb h rfl).trans (sd_tq h rfl))))
theorem sd_z18 {pc : Nat} (h : 47 ≤ pc) : ev_c18 pc = none := ((sd_tb h rfl).trans ((sd_tb h rfl).trans ((sd_tb h rfl).trans ((sd_tb h rfl).trans ((sd_tb h rfl).trans (sd_tq h rfl))))))
theorem sd_z19 {pc : Nat} (h : 28 ≤ pc) : ev_c19 pc = none := ((sd_tb h rfl).trans ((sd_tb h rfl).trans ((sd_tb h rfl).trans ((sd_tb h rfl).trans (sd_tq h rfl)))))
theorem sd_z20 {pc : Nat} (h : 204 ≤ pc) : ev_c20 pc = none := ((sd_tb h rfl).trans ((sd_tb h rfl).trans ((sd_tb h rfl).trans ((sd_tb h rfl).trans ((sd_tb h rfl).trans ((sd_tb h rfl).trans ((sd_tb h rfl).trans (sd_tq h rfl))))))))
theorem sd_z21 {pc : Nat} (h : 65 ≤ pc) : ev_c21 pc = none := ((sd_tb h rfl).trans ((sd_tb h rfl).trans ((sd_tb h rfl).trans ((sd_tb h rfl).trans ((sd_tb h rfl).trans ((sd_tb h rfl).trans (sd_tq h rfl)))))))
theorem sd_z22 {pc : Nat} (h : 38 ≤ pc) : ev_c22 pc = none := ((sd_tb h rfl).trans ((sd_tb h rfl).trans ((sd_tb h rfl).trans ((sd_tb h rfl).trans ((sd_tb h rfl).trans (sd_tq h rfl))))))
theorem sd_z23 {pc : Nat} (h : 54 ≤ pc) : ev_c23 pc = none := ((sd_tb h rfl).trans ((sd_tb h rfl).trans ((sd_tb h rfl).trans ((sd_tb h rfl).trans ((sd_tb h rfl).trans (sd_tq h rfl))))))
theorem sd_z24 {pc : Nat} (h : 25 ≤ pc) : ev_c24 pc = none := ((sd_tb h rfl).trans ((sd_tb h rfl).trans ((sd_tb h rfl).trans ((sd_tb h rfl).trans (sd_tq h rfl)))))
theorem sd_z25 {pc : Nat} (h : 42 ≤ pc) : ev_c25 pc = none := ((sd_tb h rfl).trans ((sd_tb h rfl).trans ((sd_tb h rfl).trans ((sd_tb h rfl).trans ((sd_tb h rfl).trans (sd_tq h rfl))))))
theorem sd_z26 {pc : Nat} (h : 63 ≤ pc) : ev_c26 pc = none := ((sd_tb h rfl).trans ((sd_tb h rfl).trans ((sd_tb h rfl).trans ((sd_tb h rfl).trans ((sd_tb h rfl).trans (sd_tq h rfl))))))
theorem sd_z27 {pc : Nat} (h : 18 ≤ pc) : ev_c27 pc = none := ((sd_tb h rfl).trans ((sd_tb h rfl).trans ((sd_tb h rfl).trans ((sd_tb h rfl).trans (sd_tq h rfl)))))
theorem sd_z28 {pc : Nat} (h : 18 ≤ pc) : ev_c28 pc = none := ((sd_tb h rfl).trans ((sd_tb h rfl).trans ((sd_tb h rfl).trans ((sd_tb h rfl).trans (sd_tq h rfl)))))
theorem sd_z29 {pc : Nat} (h : 39 ≤ pc) : ev_c29 pc = none := ((sd_tb h rfl).trans ((sd_tb h rfl).trans ((sd_tb h rfl).trans ((sd_tb h rfl).trans ((sd_tb h rfl).trans (sd_tq h rfl))))))
theorem sd_z30 {pc : Nat} (h : 46 ≤ pc) : ev_c30 pc = none := ((sd_tb h rfl).trans ((sd_tb h rfl).trans ((sd_tb h rfl).trans ((sd_tb h rfl).trans ((sd_tb h rfl).trans (sd_tq h rfl))))))
theorem sd_z31 {pc : Nat} (h : 73 ≤ pc) : ev_c31 pc = none := ((sd_tb h rfl).trans ((sd_tb h rfl).trans ((sd_tb h rfl).trans ((sd_tb h rfl).trans ((sd_tb h rfl).trans ((sd_tb h rfl).trans (sd_tq h rfl)))))))
theorem sd_z32 {pc : Nat} (h : 54 ≤ pc) : ev_c32 pc = none := ((sd_tb h rfl).trans ((sd_tb h rfl).trans ((sd_tb h rfl).trans ((sd_tb h rfl).trans ((sd_tb h rfl).trans (sd_tq h rfl))))))
theorem sd_z33 {pc : Nat} (h : 18 ≤ pc) : ev_c33 pc = none := ((sd_tb h rfl).trans ((sd_tb h rfl).trans ((sd_tb h rfl).trans ((sd_tb h rfl).trans (sd_tq h rfl)))))
theorem sd_z34 {pc : Nat} (h : 122 ≤ pc) : ev_c34 pc = none := ((sd_tb h rfl).trans ((sd_tb h rfl).trans ((sd_tb h rfl).trans ((sd_tb h rfl).trans ((sd_tb h rfl).trans ((sd_tb h rfl).trans (sd_tq h rfl)))))))
theorem sd_z35 {pc : Nat} (h : 91 ≤ pc) : ev_c35 pc = none := ((sd_tb h rfl).trans ((sd_tb h rfl).trans ((sd_tb h rfl).trans ((sd_tb h rfl).trans ((sd_tb h rfl).trans ((sd_tb h rfl).trans (sd_tq h rfl)))))))
theorem sd_z36 {pc : Nat} (h : 125 ≤ pc) : ev_c36 pc = none := ((sd_tb h rfl).trans ((sd_tb h rfl).trans ((sd_tb h rfl).trans ((sd_tb h rfl).trans ((sd_tb h rfl).trans ((sd_tb h rfl).trans ((sd_tb h rfl).trans (sd_tq h rfl))))))))
theorem sd_z37 {pc : Nat} (h : 111 ≤ pc) : ev_c37 pc = none := ((sd_tb h rfl).trans ((sd_tb h rfl).trans ((sd_tb h rfl).trans ((sd_tb h rfl).trans ((sd_tb h rfl).trans ((sd_tb h rfl).trans (sd_tq h rfl)))))))
theorem sd_z38 {pc : Nat} (h : 26 ≤ pc) : ev_c38 pc = none := ((sd_tb h rfl).trans ((sd_tb h rfl).trans ((sd_tb h rfl).trans ((sd_tb h rfl).trans (sd_tq h rfl)))))
theorem sd_z39 {pc : Nat} (h : 56 ≤ pc) : ev_c39 pc = none := ((sd_tb h rfl).trans ((sd_tb h rfl).trans ((sd_tb h rfl).trans ((sd_tb h rfl).trans ((sd_tb h rfl).trans ((sd_tb h rfl).trans (sd_tq h rfl)))))))
theorem sd_z40 {pc : Nat} (h : 59 ≤ pc) : ev_c40 pc = none := ((sd_tb h rfl).trans ((sd_tb h rfl).trans ((sd_tb h rfl).trans ((sd_tb h rfl).trans ((sd_tb h rfl).trans (sd_tq h rfl))))))
theorem sd_z41 {pc : Nat} (h : 32 ≤ pc) : ev_c41 pc = none := ((sd_tb h rfl).trans ((sd_tb h rfl).trans ((sd_tb h rfl).trans ((sd_tb h rfl).trans (sd_tq h rfl)))))
theorem sd_z42 {pc : Nat} (h : 61 ≤ pc) : ev_c42 pc = none := ((sd_tb h rfl).trans ((sd_tb h rfl).trans ((sd_tb h rfl).trans ((sd_tb h rfl).trans (sd_tq h rfl)))))
theorem sd_z43 {pc : Nat} (h : 53 ≤ pc) : ev_c43 pc = none := ((sd_tb h rfl).trans ((sd_tb h rfl).trans ((sd_tb h rfl).trans ((sd_tb h rfl).trans ((sd_tb h rfl).trans (sd_tq h rfl))))))
theorem sd_z44 {pc : Nat} (h : 11 ≤ pc) : ev_c44 pc = none := ((sd_tb h rfl).trans ((sd_tb h rfl).trans ((sd_tb h rfl).trans (sd_tq h rfl))))
theorem sd_z45 {pc : Nat} (h : 83 ≤ pc) : ev_c45 pc = none := ((sd_tb h rfl).trans ((sd_tb h rfl).trans ((sd_tb h rfl).trans ((sd_tb h rfl).trans ((sd_tb h rfl).trans ((sd_tb h rfl).trans (sd_tq h rfl)))))))
theorem sd_z46 {pc : Nat} (h : 18 ≤ pc) : ev_c46 pc = none := ((sd_tb h rfl).trans ((sd_tb h rfl).trans ((sd_tb h rfl).trans ((sd_tb h rfl).trans (sd_tq h rfl)))))
theorem sd_z47 {pc : Nat} (h : 70 ≤ pc) : ev_c47 pc = none := ((sd_tb h rfl).trans ((sd_tb h rfl).trans ((sd_tb h rfl).trans ((sd_tb h rfl).trans ((sd_tb h rfl).trans ((sd_tb h rfl).trans (sd_tq h rfl)))))))
theorem sd_z48 {pc : Nat} (h : 54 ≤ pc) : ev_c48 pc = none := ((sd_tb h rfl).trans ((sd_tb h rfl).trans ((sd_tb h rfl).trans ((sd_tb h rfl).trans ((sd_tb h rfl).trans (sd_tq h rfl))))))
theorem sd_z49 {pc : Nat} (h : 33 ≤ pc) : ev_c49 pc = none := ((sd_tb h rfl).trans ((sd_tb h rfl).trans ((sd_tb h rfl).trans ((sd_tb h rfl).trans ((sd_tb h rfl).trans (sd_tq h rfl))))))
theorem sd_z50 {pc : Nat} (h : 47 ≤ pc) : ev_c50 pc = none := ((sd_tb h rfl).trans ((sd_tb h rfl).trans ((sd_tb h rfl).trans ((sd_tb h rfl).trans ((sd_tb h rfl).trans (sd_tq h rfl))))))
theorem sd_z51 {pc : Nat} (h : 73 ≤ pc) : ev_c51 pc = none := ((sd_tb h rfl).trans ((sd_tb h rfl).trans ((sd_tb h rfl).trans ((sd_tb h rfl).trans ((sd_tb h rfl).trans ((sd_tb h rfl).trans (sd_tq h rfl)))))))
theorem sd_z52 {pc : Nat} (h : 45 ≤ pc) : ev_c52 pc = none := ((sd_tb h rfl).trans ((sd_tb h rfl).trans ((sd_tb h rfl).trans ((sd_tb h rfl).trans ((sd_tb h rfl).trans (sd_tq h rfl))))))
theorem sd_z53 {pc : Nat} (h : 41 ≤ pc) : ev_c53 pc = none := ((sd_tb h rfl).trans ((sd_tb h rfl).trans ((sd_tb h rfl).trans ((sd_tb h rfl).trans ((sd_tb h rfl).trans (sd_tq h rfl))))))
theorem sd_z54 {pc : Nat} (h : 56 ≤ pc) : ev_c54 pc = none := ((sd_tb h rfl).trans ((sd_tb h rfl).trans ((sd_tb h rfl).trans ((sd_tb h rfl).trans ((sd_tb h rfl).trans (sd_tq h rfl))))))
theorem sd_z55 {pc : Nat} (h : 15 ≤ pc) : ev_c55 pc = none := ((sd_tb h rfl).trans ((sd_tb h rfl).trans ((sd_tb h rfl).trans ((sd_tb h rfl).trans (sd_tq h rfl)))))
theorem sd_z56 {pc : Nat} (h : 50 ≤ pc) : ev_c56 pc = none := ((sd_tb h rfl).trans ((sd_tb h rfl).trans ((sd_tb h rfl).trans ((sd_tb h rfl).trans ((sd_tb h rfl).trans ((sd_tb h rfl).trans (sd_tq h rfl)))))))
theorem sd_z57 {pc : Nat} (h : 46 ≤ pc) : ev_c57 pc = none := ((sd_tb h rfl).trans ((sd_tb h rfl).trans ((sd_tb h rfl).trans ((sd_tb h rfl).trans ((sd_tb h rfl).trans (sd_tq h rfl))))))
theorem sd_z58 {pc : Nat} (h : 21 ≤ pc) : ev_c58 pc = none := ((sd_tb h rfl).trans ((sd_tb h rfl).trans ((sd_tb h rfl).trans ((sd_tb h rfl).trans (sd_tq h rfl)))))
theorem sd_z59 {pc : Nat} (h : 35 ≤ pc) : ev_c59 pc = none := ((sd_tb h rfl).trans ((sd_tb h rfl).trans ((sd_tb h rfl).trans ((sd_tb h rfl).trans ((sd_tb h rfl).trans (sd_tq h rfl))))))
theorem sd_z60 {pc : Nat} (h : 29 ≤ pc) : ev_c60 pc = none := ((sd_tb h rfl).trans ((sd_tb h rfl).trans ((sd_tb h rfl).trans ((sd_tb h rfl).trans ((sd_tb h rfl).trans (sd_tq h rfl))))))
theorem sd_z61 {pc : Nat} (h : 58 ≤ pc) : ev_c61 pc = none := ((sd_tb h rfl).trans ((sd_tb h rfl).trans ((sd_tb h rfl).trans ((sd_tb h rfl).trans ((sd_tb h rfl).trans (sd_tq h rfl))))))
theorem sd_z62 {pc : Nat} (h : 60 ≤ pc) : ev_c62 pc = none := ((sd_tb h rfl).trans ((sd_tb h rfl).trans ((sd_tb h rfl).trans ((sd_tb h rfl).trans ((sd_tb h rfl).trans (sd_tq h rfl))))))
theorem sd_z63 {pc : Nat} (h : 88 ≤ pc) : ev_c63 pc = none := ((sd_tb h rfl).trans ((sd_tb h rfl).trans ((sd_tb h rfl).trans ((sd_tb h rfl).trans ((sd_tb h rfl).trans ((sd_tb h rfl).trans (sd_tq h rfl)))))))
theorem sd_z64 {pc : Nat} (h : 24 ≤ pc) : ev_c64 pc = none := ((sd_tb h rfl).trans ((sd_tb h rfl).trans ((sd_tb h rfl).trans ((sd_tb h rfl).trans (sd_tq h rfl)))))
theorem sd_z65 {pc : Nat} (h : 32 ≤ pc) : ev_c65 pc = none := ((sd_tb h rfl).trans ((sd_tb h rfl).trans ((sd_tb h rfl).trans ((sd_tb h rfl).trans ((sd_tb h rfl).trans (sd_tq h rfl))))))
theorem sd_z66 {pc : Nat} (h : 63 ≤ pc) : ev_c66 pc = none := ((sd_tb h rfl).trans ((sd_tb h rfl).trans ((sd_tb h rfl).trans ((sd_tb h rfl).trans ((sd_tb h rfl).trans ((sd_tb h rfl).trans (sd_tq h rfl)))))))
theorem sd_z67 {pc : Nat} (h : 87 ≤ pc) : ev_c67 pc = none := ((sd_tb h rfl).trans ((sd_tb h rfl).trans ((sd_tb h rfl).trans ((sd_tb h rfl).trans ((sd_tb h rfl).trans ((sd_tb h rfl).trans (sd_tq h rfl)))))))
theorem sd_z68 {pc : Nat} (h : 127 ≤ pc) : ev_c68 pc = none := ((sd_tb h rfl).trans ((sd_tb h rfl).trans ((sd_tb h rfl).trans ((sd_tb h rfl).trans ((sd_tb h rfl).trans ((sd_tb h rfl).trans ((sd_tb h rfl).trans (sd_tq h rfl))))))))
theorem sd_z69 {pc : Nat} (h : 59 ≤ pc) : ev_c69 pc = none := ((sd_tb h rfl).trans ((sd_tb h rfl).trans ((sd_tb h rfl).trans ((sd_tb h rfl).trans ((sd_tb h rfl).trans (sd_tq h rfl))))))
theorem sd_z70 {pc : Nat} (h : 27 ≤ pc) : ev_c70 pc = none := ((sd_tb h rfl).trans ((sd_tb h rfl).trans ((sd_tb h rfl).trans ((sd_tb h rfl).trans ((sd_tb h rfl).trans (sd_tq h rfl))))))
theorem sd_z71 {pc : Nat} (h : 115 ≤ pc) : ev_c71 pc = none := ((sd_tb h rfl).trans ((sd_tb h rfl).trans ((sd_tb h rfl).trans ((sd_tb h rfl).trans ((sd_tb h rfl).trans ((sd_tb h rfl).trans ((sd_tb h rfl).trans (sd_tq h rfl))))))))
theorem sd_z72 {pc : Nat} (h : 44 ≤ pc) : ev_c72 pc = none := ((sd_tb h rfl).trans ((sd_tb h rfl).trans ((sd_tb h rfl).trans ((sd_tb h rfl).trans ((sd_tb h rfl).trans (sd_tq h rfl))))))
theorem sd_z73 {pc : Nat} (h : 76 ≤ pc) : ev_c73 pc = none := ((sd_tb h rfl).trans ((sd_tb h rfl).trans ((sd_tb h rfl).trans ((sd_tb h rfl).trans ((sd_tb h rfl).trans ((sd_tb h rfl).trans (sd_tq h rfl)))))))
theorem sd_z74 {pc : Nat} (h : 57 ≤ pc) : ev_c74 pc = none := ((sd_tb h rfl).trans ((sd_tb h rfl).trans ((sd_tb h rfl).trans ((sd_tb h rfl).trans ((sd_tb h rfl).trans (sd_tq h rfl))))))
theorem sd_z75 {pc : Nat} (h : 65 ≤ pc) : ev_c75 pc = none := ((sd_tb h rfl).trans ((sd_tb h rfl).trans ((sd_tb h rfl).trans ((sd_tb h rfl).trans ((sd_tb h rfl).trans ((sd_tb h rfl).trans (sd_tq h rfl)))))))
theorem sd_z76 {pc : Nat} (h : 120 ≤ pc) : ev_c76 pc = none := ((sd_tb h rfl).trans ((sd_tb h rfl).trans ((sd_tb h rfl).trans ((sd_tb h rfl).trans ((sd_tb h rfl).trans ((sd_tb h rfl).trans ((sd_tb h rfl).trans (sd_tq h rfl))))))))
theorem sd_z77 {pc : Nat} (h : 121 ≤ pc) : ev_c77 pc = none := ((sd_tb h rfl).trans ((sd_tb h rfl).trans ((sd_tb h rfl).trans ((sd_tb h rfl).trans ((sd_tb h rfl).trans ((sd_tb h rfl).trans ((sd_tb h rfl).trans (sd_tq h rfl))))))))
theorem sd_z78 {pc : Nat} (h : 27 ≤ pc) : ev_c78 pc = none := ((sd_tb h rfl).trans ((sd_tb h rfl).trans ((sd_tb h rfl).trans ((sd_tb h rfl).trans (sd_tq h rfl)))))
theorem sd_z79 {pc : Nat} (h : 16 ≤ pc) : ev_c79 pc = none := ((sd_tb h rfl).trans ((sd_tb h rfl).trans ((sd_tb h rfl).trans ((sd_tb h rfl).trans (sd_tq h rfl)))))
theorem sd_z80 {pc : Nat} (h : 89 ≤ pc) : ev_c80 pc = none := ((sd_tb h rfl).trans ((sd_tb h rfl).trans ((sd_tb h rfl).trans ((sd_tb h rfl).trans ((sd_tb h rfl).trans ((sd_tb h rfl).trans (sd_tq h rfl)))))))
theorem sd_z81 {pc : Nat} (h : 67 ≤ pc) : ev_c81 pc = none := ((sd_tb h rfl).trans ((sd_tb h rfl).trans ((sd_tb h rfl).trans ((sd_tb h rfl).trans ((sd_tb h rfl).trans ((sd_tb h rfl).trans (sd_tq h rfl)))))))
theorem sd_z82 {pc : Nat} (h : 96 ≤ pc) : ev_c82 pc = none := ((sd_tb h rfl).trans ((sd_tb h rfl).trans ((sd_tb h rfl).trans ((sd_tb h rfl).trans ((sd_tb h rfl).trans ((sd_tb h rfl).trans (sd_tq h rfl)))))))
theorem sd_z83 {pc : Nat} (h : 115 ≤ pc) : ev_c83 pc = none := ((sd_tb h rfl).trans ((sd_tb h rfl).trans ((sd_tb h rfl).trans ((sd_tb h rfl).trans ((sd_tb h rfl).trans ((sd_tb h rfl).trans ((sd_tb h rfl).trans (sd_tq h rfl))))))))
theorem sd_z84 {pc : Nat} (h : 92 ≤ pc) : ev_c84 pc = none := ((sd_tb h rfl).trans ((sd_tb h rfl).trans ((sd_tb h rfl).trans ((sd_tb h rfl).trans ((sd_tb h rfl).trans ((sd_tb h rfl).trans (sd_tq h rfl)))))))
theorem sd_z85 {pc : Nat} (h : 55 ≤ pc) : ev_c85 pc = none := ((sd_tb h rfl).trans ((sd_tb h rfl).trans ((sd_tb h rfl).trans ((sd_tb h rfl).trans ((sd_tb h rfl).trans (sd_tq h rfl))))))
theorem sd_z86 {pc : Nat} (h : 98 ≤ pc) : ev_c86 pc = none := ((sd_tb h rfl).trans ((sd_tb h rfl).trans ((sd_tb h rfl).trans ((sd_tb h rfl).trans ((sd_tb h rfl).trans ((sd_tb h rfl).trans (sd_tq h rfl)))))))
theorem sd_z87 {pc : Nat} (h : 68 ≤ pc) : ev_c87 pc = none := ((sd_tb h rfl).trans ((sd_tb h rfl).trans ((sd_tb h rfl).trans ((sd_tb h rfl).trans ((sd_tb h rfl).trans ((sd_tb h rfl).trans (sd_tq h rfl)))))))
theorem sd_z88 {pc : Nat} (h : 108 ≤ pc) : ev_c88 pc = none := ((sd_tb h rfl).trans ((sd_tb h rfl).trans ((sd_tb h rfl).trans ((sd_tb h rfl).trans ((sd_tb h rfl).trans ((sd_tb h rfl).trans (sd_tq h rfl)))))))
theorem sd_z89 {pc : Nat} (h : 5 ≤ pc) : ev_c89 pc = none := ((sd_tb h rfl).trans ((sd_tb h rfl).trans (sd_tq h rfl)))
theorem sd_z90 {pc : Nat} (h : 167 ≤ pc) : ev_c90 pc = none := ((sd_tb h rfl).trans ((sd_tb h rfl).trans ((sd_tb h rfl).trans ((sd_tb h rfl).trans ((sd_tb h rfl).trans ((sd_tb h rfl).trans (sd_tq h rfl)))))))
theorem sd_z91 {pc : Nat} (h : 30 ≤ pc) : ev_c91 pc = none := ((sd_tb h rfl).trans ((sd_tb h rfl).trans ((sd_tb h rfl).trans ((sd_tb h rfl).trans (sd_tq h rfl)))))
theorem sd_z92 {pc : Nat} (h : 183 ≤ pc) : ev_c92 pc = none := ((sd_tb h rfl).trans ((sd_tb h rfl).trans ((sd_tb h rfl).trans ((sd_tb h rfl).trans ((sd_tb h rfl).trans ((sd_tb h rfl).trans ((sd_tb h rfl).trans (sd_tq h rfl))))))))
theorem sd_z93 {pc : Nat} (h : 208 ≤ pc) : ev_c93 pc = none := ((sd_tb h rfl).trans ((sd_tb h rfl).trans ((sd_tb h rfl).trans ((sd_tb h rfl).trans ((sd_tb h rfl).trans ((sd_tb h rfl).trans ((sd_tb h rfl).trans (sd_tq h rfl))))))))
theorem sd_z94 {pc : Nat} (h : 115 ≤ pc) : ev_c94 pc = none := ((sd_tb h rfl).trans ((sd_tb h rfl).trans ((sd_tb h rfl).trans ((sd_tb h rfl).trans ((sd_tb h rfl).trans ((sd_tb h rfl).trans (sd_tq h rfl)))))))
theorem sd_z95 {pc : Nat} (h : 18 ≤ pc) : ev_c95 pc = none := ((sd_tb h rfl).trans ((sd_tb h rfl).trans ((sd_tb h rfl).trans ((sd_tb h rfl).trans (sd_tq h rfl)))))
theorem sd_z96 {pc : Nat} (h : 98 ≤ pc) : ev_c96 pc = none := ((sd_tb h rfl).trans ((sd_tb h rfl).trans ((sd_tb h rfl).trans ((sd_tb h rfl).trans ((sd_tb h rfl).trans ((sd_tb h rfl).trans (sd_tq h rfl)))))))
theorem sd_z97 {pc : Nat} (h : 122 ≤ pc) : ev_c97 pc = none := ((sd_tb h rfl).trans ((sd_tb h rfl).trans ((sd_tb h rfl).trans ((sd_tb h rfl).trans ((sd_tb h rfl).trans ((sd_tb h rfl).trans (sd_tq h rfl)))))))
theorem sd_z98 {pc : Nat} (h : 19 ≤ pc) : ev_c98 pc = none := ((sd_tb h rfl).trans ((sd_tb h rfl).trans ((sd_tb h rfl).trans ((sd_tb h rfl).trans (sd_tq h rfl)))))
theorem sd_z99 {pc : Nat} (h : 29 ≤ pc) : ev_c99 pc = none := ((sd_tb h rfl).trans ((sd_tb h rfl).trans ((sd_tb h rfl).trans ((sd_tb h rfl).trans (sd_tq h rfl)))))
theorem sd_z100 {pc : Nat} (h : 80 ≤ pc) : ev_c100 pc = none := ((sd_tb h rfl).trans ((sd_tb h rfl).trans ((sd_tb h rfl).trans ((sd_tb h rfl).trans ((sd_tb h rfl).trans ((sd_tb h rfl).trans (sd_tq h rfl)))))))
theorem sd_z101 {pc : Nat} (h : 103 ≤ pc) : ev_c101 pc = none := ((sd_tb h rfl).trans ((sd_tb h rfl).trans ((sd_tb h rfl).trans ((sd_tb h rfl).trans ((sd_tb h rfl).trans ((sd_tb h rfl).trans (sd_tq h rfl)))))))
theorem sd_z102 {pc : Nat} (h : 19 ≤ pc) : ev_c102 pc = none := ((sd_tb h rfl).trans ((sd_tb h rfl).trans ((sd_tb h rfl).trans ((sd_tb h rfl).trans (sd_tq h rfl)))))
theorem sd_z103 {pc : Nat} (h : 28 ≤ pc) : ev_c103 pc = none := ((sd_tb h rfl).trans ((sd_tb h rfl).trans ((sd_tb h rfl).trans ((sd_tb h rfl).trans ((sd_tb h rfl).trans (sd_tq h rfl))))))
theorem sd_z104 {pc : Nat} (h : 8 ≤ pc) : ev_c104 pc = none := ((sd_tb h rfl).trans ((sd_tb h rfl).trans (sd_tq h rfl)))
theorem sd_z105 {pc : Nat} (h : 65 ≤ pc) : ev_c105 pc = none := ((sd_tb h rfl).trans ((sd_tb h rfl).trans ((sd_tb h rfl).trans ((sd_tb h rfl).trans ((sd_tb h rfl).trans ((sd_tb h rfl).trans (sd_tq h rfl)))))))
theorem sd_z106 {pc : Nat} (h : 30 ≤ pc) : ev_c106 pc = none := ((sd_tb h rfl).trans ((sd_tb h rfl).trans ((sd_tb h rfl).trans ((sd_tb h rfl).trans (sd_tq h rfl)))))
theorem sd_z107 {pc : Nat} (h : 73 ≤ pc) : ev_c107 pc = none := ((sd_tb h rfl).trans ((sd_tb h rfl).trans ((sd_tb h rfl).trans ((sd_tb h rfl).trans ((sd_tb h rfl).trans (sd_tq h rfl))))))
theorem sd_z108 {pc : Nat} (h : 76 ≤ pc) : ev_c108 pc = none := ((sd_tb h rfl).trans ((sd_tb h rfl).trans ((sd_tb h rfl).trans ((sd_tb h rfl).trans ((sd_tb h rfl).trans ((sd_tb h rfl).trans (sd_tq h rfl)))))))
theorem sd_z109 {pc : Nat} (h : 106 ≤ pc) : ev_c109 pc = none := ((sd_tb h rfl).trans ((sd_tb h rfl).trans ((sd_tb h rfl).trans ((sd_tb h rfl).trans ((sd_tb h rfl).trans ((sd_tb h rfl).trans (sd_tq h rfl)))))))
theorem sd_z110 {pc : Nat} (h : 82 ≤ pc) : ev_c110 pc = none := ((sd_tb h rfl).trans ((sd_tb h rfl).trans ((sd_tb h rfl).trans ((sd_tb h rfl).trans ((sd_tb h rfl).trans ((sd_tb h rfl).trans (sd_tq h rfl)))))))
theorem sd_z111 {pc : Nat} (h : 29 ≤ pc) : ev_c111 pc = none := ((sd_tb h rfl).trans ((sd_tb h rfl).trans ((sd_tb h rfl).trans ((sd_tb h rfl).trans (sd_tq h rfl)))))
theorem sd_z112 {pc : Nat} (h : 26 ≤ pc) : ev_c112 pc = none := ((sd_tb h rfl).trans ((sd_tb h rfl).trans ((sd_tb h rfl).trans ((sd_tb h rfl).trans (sd_tq h rfl)))))
theorem sd_z113 {pc : Nat} (h : 18 ≤ pc) : ev_c113 pc = none := ((sd_tb h rfl).trans ((sd_tb h rfl).trans ((sd_tb h rfl).trans ((sd_tb h rfl).trans (sd_tq h rfl)))))
theorem sd_z114 {pc : Nat} (h : 46 ≤ pc) : ev_c114 pc = none := ((sd_tb h rfl).trans ((sd_tb h rfl).trans ((sd_tb h rfl).trans ((sd_tb h rfl).trans ((sd_tb h rfl).trans (sd_tq h rfl))))))
theorem sd_z115 {pc : Nat} (h : 23 ≤ pc) : ev_c115 pc = none := ((sd_tb h rfl).trans ((sd_tb h rfl).trans ((sd_tb h rfl).trans (sd_tq h rfl))))
theorem sd_z116 {pc : Nat} (h : 34 ≤ pc) : ev_c116 pc = none := ((sd_tb h rfl).trans ((sd_tb h rfl).trans ((sd_tb h rfl).trans ((sd_tb h rfl).trans (sd_tq h rfl)))))
theorem sd_z117 {pc : Nat} (h : 26 ≤ pc) : ev_c117 pc = none := ((sd_tb h rfl).trans ((sd_tb h rfl).trans ((sd_tb h rfl).trans (sd_tq h rfl))))
theorem sd_z118 {pc : Nat} (h : 21 ≤ pc) : ev_c118 pc = none := ((sd_tb h rfl).trans ((sd_tb h rfl).trans ((sd_tb h rfl).trans (sd_tq h rfl))))
theorem sd_z119 {pc : Nat} (h : 24 ≤ pc) : ev_c119 pc = none := ((sd_tb h rfl).trans ((sd_tb h rfl).trans ((sd_tb h rfl).trans (sd_tq h rfl))))
theorem sd_z120 {pc : Nat} (h : 33 ≤ pc) : ev_c120 pc = none := ((sd_tb h rfl).trans ((sd_tb h rfl).trans ((sd_tb h rfl).trans ((sd_tb h rfl).trans ((sd_tb h rfl).trans (sd_tq h rfl))))))
theorem sd_z121 {pc : Nat} (h : 37 ≤ pc) : ev_c121 pc = none := ((sd_tb h rfl).trans ((sd_tb h rfl).trans ((sd_tb h rfl).trans ((sd_tb h rfl).trans ((sd_tb h rfl).trans (sd_tq h rfl))))))
theorem sd_z122 {pc : Nat} (h : 39 ≤ pc) : ev_c122 pc = none := ((sd_tb h rfl).trans ((sd_tb h rfl).trans ((sd_tb h rfl).trans ((sd_tb h rfl).trans ((sd_tb h rfl).trans (sd_tq h rfl))))))
theorem sd_z123 {pc : Nat} (h : 32 ≤ pc) : ev_c123 pc = none := ((sd_tb h rfl).trans ((sd_tb h rfl).trans ((sd_tb h rfl).trans ((sd_tb h rfl).trans (sd_tq h rfl)))))
theorem sd_z124 {pc : Nat} (h : 7 ≤ pc) : ev_c124 pc = none := ((sd_tb h rfl).trans ((sd_tb h rfl).trans ((sd_tb h rfl).trans (sd_tq h rfl))))
theorem sd_z125 {pc : Nat} (h : 37 ≤ pc) : ev_c125 pc = none := ((sd_tb h rfl).trans ((sd_tb h rfl).trans ((sd_tb h rfl).trans ((sd_tb h rfl).trans ((sd_tb h rfl).trans (sd_tq h rfl))))))
theorem sd_z126 {pc : Nat} (h : 15 ≤ pc) : ev_c126 pc = none := ((sd_tb h rfl).trans ((sd_tb h rfl).trans ((sd_tb h rfl).trans ((sd_tb h rfl).trans (sd_tq h rfl)))))
theorem sd_z127 {pc : Nat} (h : 174 ≤ pc) : ev_c127 pc = none := ((sd_tb h rfl).trans ((sd_tb h rfl).trans ((sd_tb h rfl).trans ((sd_tb h rfl).trans ((sd_tb h rfl).trans ((sd_tb h rfl).trans ((sd_tb h rfl).trans (sd_tq h rfl))))))))
theorem sd_z128 {pc : Nat} (h : 5 ≤ pc) : ev_c128 pc = none := ((sd_tb h rfl).trans ((sd_tb h rfl).trans (sd_tq h rfl)))
theorem sd_z129 {pc : Nat} (h : 16 ≤ pc) : ev_c129 pc = none := ((sd_tb h rfl).trans ((sd_tb h rfl).trans ((sd_tb h rfl).trans ((sd_tb h rfl).trans (sd_tq h rfl)))))
theorem sd_z130 {pc : Nat} (h : 29 ≤ pc) : ev_c130 pc = none := ((sd_tb h rfl).trans ((sd_tb h rfl).trans ((sd_tb h rfl).trans ((sd_tb h rfl).trans (sd_tq h rfl)))))
theorem sd_z131 {pc : Nat} (h : 17 ≤ pc) : ev_c131 pc = none := ((sd_tb h rfl).trans ((sd_tb h rfl).trans ((sd_tb h rfl).trans ((sd_tb h rfl).trans (sd_tq h rfl)))))
theorem sd_z132 {pc : Nat} (h : 55 ≤ pc) : ev_c132 pc = none := ((sd_tb h rfl).trans ((sd_tb h rfl).trans ((sd_tb h rfl).trans ((sd_tb h rfl).trans (sd_tq h rfl)))))
theorem sd_z133 {pc : Nat} (h : 54 ≤ pc) : ev_c133 pc = none := ((sd_tb h rfl).trans ((sd_tb h rfl).trans ((sd_tb h rfl).trans ((sd_tb h rfl).trans (sd_tq h rfl)))))
theorem sd_z134 {pc : Nat} (h : 52 ≤ pc) : ev_c134 pc = none := ((sd_tb h rfl).trans ((sd_tb h rfl).trans ((sd_tb h rfl).trans ((sd_tb h rfl).trans ((sd_tb h rfl).trans (sd_tq h rfl))))))
theorem sd_z135 {pc : Nat} (h : 37 ≤ pc) : ev_c135 pc = none := ((sd_tb h rfl).trans ((sd_tb h rfl).trans ((sd_tb h rfl).trans ((sd_tb h rfl).trans ((sd_tb h rfl).trans (sd_tq h rfl))))))
theorem sd_z136 {pc : Nat} (h : 23 ≤ pc) : ev_c136 pc = none := ((sd_tb h rfl).trans ((sd_tb h rfl).trans ((sd_tb h rfl).trans ((sd_tb h rfl).trans (sd_tq h rfl)))))
theorem sd_z137x {pc : Nat} (h : 278 ≤ pc) : ev_c137_2 pc = none := ((sd_tb h rfl).trans ((sd_tb h rfl).trans ((sd_tb h rfl).trans ((sd_tb h rfl).trans ((sd_tb h rfl).trans (sd_tq h rfl))))))
theorem sd_z137 {pc : Nat} (h : 278 ≤ pc) : ev_c137 pc = none := ((sd_tb h rfl).trans ((sd_tb h rfl).trans (sd_z137x h)))
theorem sd_z138 {pc : Nat} (h : 77 ≤ pc) : ev_c138 pc = none := ((sd_tb h rfl).trans ((sd_tb h rfl).trans ((sd_tb h rfl).trans ((sd_tb h rfl).trans ((sd_tb h rfl).trans ((sd_tb h rfl).trans (sd_tq h rfl)))))))
theorem sd_z139 {pc : Nat} (h : 22 ≤ pc) : ev_c139 pc = none := ((sd_tb h rfl).trans ((sd_tb h rfl).trans ((sd_tb h rfl).trans ((sd_tb h rfl).trans (sd_tq h rfl)))))
theorem sd_z140 {pc : Nat} (h : 16 ≤ pc) : ev_c140 pc = none := ((sd_tb h rfl).trans ((sd_tb h rfl).trans ((sd_tb h rfl).trans ((sd_tb h rfl).trans (sd_tq h rfl)))))
theorem sd_z141 {pc : Nat} (h : 46 ≤ pc) : ev_c141 pc = none := ((sd_tb h rfl).trans ((sd_tb h rfl).trans ((sd_tb h rfl).trans ((sd_tb h rfl).trans ((sd_tb h rfl).trans (sd_tq h rfl))))))
theorem sd_z142 {pc : Nat} (h : 23 ≤ pc) : ev_c142 pc = none := ((sd_tb h rfl).trans ((sd_tb h rfl).trans ((sd_tb h rfl).trans ((sd_tb h rfl).trans (sd_tq h rfl)))))
theorem sd_z143 {pc : Nat} (h : 19 ≤ pc) : ev_c143 pc = none := ((sd_tb h rfl).trans ((sd_tb h rfl).trans ((sd_tb h rfl).trans ((sd_tb h rfl).trans (sd_tq h rfl)))))
theorem sd_z144 {pc : Nat} (h : 36 ≤ pc) : ev_c144 pc = none := ((sd_tb h rfl).trans ((sd_tb h rfl).trans ((sd_tb h rfl).trans ((sd_tb h rfl).trans ((sd_tb h rfl).trans (sd_tq h rfl))))))
theorem sd_z145 {pc : Nat} (h : 139 ≤ pc) : ev_c145 pc = none := ((sd_tb h rfl).trans ((sd_tb h rfl).trans ((sd_tb h rfl).trans ((sd_tb h rfl).trans ((sd_tb h rfl).trans ((sd_tb h rfl).trans ((sd_tb h rfl).trans (sd_tq h rfl))))))))
theorem sd_z146 {pc : Nat} (h : 132 ≤ pc) : ev_c146 pc = none := ((sd_tb h rfl).trans ((sd_tb h rfl).trans ((sd_tb h rfl).trans ((sd_tb h rfl).trans ((sd_tb h rfl).trans ((sd_tb h rfl).trans ((sd_tb h rfl).trans (sd_tq h rfl))))))))
theorem sd_z147 {pc : Nat} (h : 94 ≤ pc) : ev_c147 pc = none := ((sd_tb h rfl).trans ((sd_tb h rfl).trans ((sd_tb h rfl).trans ((sd_tb h rfl).trans ((sd_tb h rfl).trans ((sd_tb h rfl).trans (sd_tq h rfl)))))))
theorem sd_z148 {pc : Nat} (h : 37 ≤ pc) : ev_c148 pc = none := ((sd_tb h rfl).trans ((sd_tb h rfl).trans ((sd_tb h rfl).trans ((sd_tb h rfl).trans ((sd_tb h rfl).trans (sd_tq h rfl))))))
theorem sd_z149 {pc : Nat} (h : 76 ≤ pc) : ev_c149 pc = none := ((sd_tb h rfl).trans ((sd_tb h rfl).trans ((sd_tb h rfl).trans ((sd_tb h rfl).trans ((sd_tb h rfl).trans ((sd_tb h rfl).trans (sd_tq h rfl)))))))
theorem sd_z150 {pc : Nat} (h : 65 ≤ pc) : ev_c150 pc = none := ((sd_tb h rfl).trans ((sd_tb h rfl).trans ((sd_tb h rfl).trans ((sd_tb h rfl).trans ((sd_tb h rfl).trans ((sd_tb h rfl).trans (sd_tq h rfl)))))))
theorem sd_z151 {pc : Nat} (h : 185 ≤ pc) : ev_c151 pc = none := ((sd_tb h rfl).trans ((sd_tb h rfl).trans ((sd_tb h rfl).trans ((sd_tb h rfl).trans ((sd_tb h rfl).trans ((sd_tb h rfl).trans ((sd_tb h rfl).trans (sd_tq h rfl))))))))
theorem sd_z152 {pc : Nat} (h : 181 ≤ pc) : ev_c152 pc = none := ((sd_tb h rfl).trans ((sd_tb h rfl).trans ((sd_tb h rfl).trans ((sd_tb h rfl).trans ((sd_tb h rfl).trans ((sd_tb h rfl).trans ((sd_tb h rfl).trans (sd_tq h rfl))))))))
theorem sd_z153 {pc : Nat} (h : 10 ≤ pc) : ev_c153 pc = none := ((sd_tb h rfl).trans ((sd_tb h rfl).trans ((sd_tb h rfl).trans (sd_tq h rfl))))
theorem sd_z154 {pc : Nat} (h : 15 ≤ pc) : ev_c154 pc = none := ((sd_tb h rfl).trans ((sd_tb h rfl).trans ((sd_tb h rfl).trans ((sd_tb h rfl).trans (sd_tq h rfl)))))
theorem sd_z155 {pc : Nat} (h : 16 ≤ pc) : ev_c155 pc = none := ((sd_tb h rfl).trans ((sd_tb h rfl).trans ((sd_tb h rfl).trans ((sd_tb h rfl).trans (sd_tq h rfl)))))
theorem sd_z156 {pc : Nat} (h : 19 ≤ pc) : ev_c156 pc = none := ((sd_tb h rfl).trans ((sd_tb h rfl).trans ((sd_tb h rfl).trans ((sd_tb h rfl).trans (sd_tq h rfl)))))
theorem sd_z157 {pc : Nat} (h : 19 ≤ pc) : ev_c157 pc = none := ((sd_tb h rfl).trans ((sd_tb h rfl).trans ((sd_tb h rfl).trans ((sd_tb h rfl).trans (sd_tq h rfl)))))
theorem sd_z158 {pc : Nat} (h : 21 ≤ pc) : ev_c158 pc = none := ((sd_tb h rfl).trans ((sd_tb h rfl).trans ((sd_tb h rfl).trans ((sd_tb h rfl).trans (sd_tq h rfl)))))
theorem sd_z159 {pc : Nat} (h : 23 ≤ pc) : ev_c159 pc = none := ((sd_tb h rfl).trans ((sd_tb h rfl).trans ((sd_tb h rfl).trans ((sd_tb h rfl).trans ((sd_tb h rfl).trans (sd_tq h rfl))))))
theorem sd_z160 {pc : Nat} (h : 16 ≤ pc) : ev_c160 pc = none := ((sd_tb h rfl).trans ((sd_tb h rfl).trans ((sd_tb h rfl).trans ((sd_tb h rfl).trans (sd_tq h rfl)))))
theorem sd_z161 {pc : Nat} (h : 17 ≤ pc) : ev_c161 pc = none := ((sd_tb h rfl).trans ((sd_tb h rfl).trans ((sd_tb h rfl).trans ((sd_tb h rfl).trans (sd_tq h rfl)))))
theorem sd_z162 {pc : Nat} (h : 63 ≤ pc) : ev_c162 pc = none := ((sd_tb h rfl).trans ((sd_tb h rfl).trans ((sd_tb h rfl).trans ((sd_tb h rfl).trans ((sd_tb h rfl).trans ((sd_tb h rfl).trans (sd_tq h rfl)))))))
theorem sd_z163 {pc : Nat} (h : 32 ≤ pc) : ev_c163 pc = none := ((sd_tb h rfl).trans ((sd_tb h rfl).trans ((sd_tb h rfl).trans ((sd_tb h rfl).trans ((sd_tb h rfl).trans (sd_tq h rfl))))))
theorem sd_z164 {pc : Nat} (h : 135 ≤ pc) : ev_c164 pc = none := ((sd_tb h rfl).trans ((sd_tb h rfl).trans ((sd_tb h rfl).trans ((sd_tb h rfl).trans ((sd_tb h rfl).trans ((sd_tb h rfl).trans ((sd_tb h rfl).trans (sd_tq h rfl))))))))
theorem sd_z165 {pc : Nat} (h : 21 ≤ pc) : ev_c165 pc = none := ((sd_tb h rfl).trans ((sd_tb h rfl).trans ((sd_tb h rfl).trans ((sd_tb h rfl).trans (sd_tq h rfl)))))
theorem sd_z166 {pc : Nat} (h : 94 ≤ pc) : ev_c166 pc = none := ((sd_tb h rfl).trans ((sd_tb h rfl).trans ((sd_tb h rfl).trans ((sd_tb h rfl).trans ((sd_tb h rfl).trans ((sd_tb h rfl).trans (sd_tq h rfl)))))))
theorem sd_z167 {pc : Nat} (h : 20 ≤ pc) : ev_c167 pc = none := ((sd_tb h rfl).trans ((sd_tb h rfl).trans ((sd_tb h rfl).trans ((sd_tb h rfl).trans (sd_tq h rfl)))))
theorem sd_z168 {pc : Nat} (h : 43 ≤ pc) : ev_c168 pc = none := ((sd_tb h rfl).trans ((sd_tb h rfl).trans ((sd_tb h rfl).trans ((sd_tb h rfl).trans ((sd_tb h rfl).trans (sd_tq h rfl))))))
theorem sd_z169 {pc : Nat} (h : 50 ≤ pc) : ev_c169 pc = none := ((sd_tb h rfl).trans ((sd_tb h rfl).trans ((sd_tb h rfl).trans ((sd_tb h rfl).trans ((sd_tb h rfl).trans (sd_tq h rfl))))))
theorem sd_z170 {pc : Nat} (h : 65 ≤ pc) : ev_c170 pc = none := ((sd_tb h rfl).trans ((sd_tb h rfl).trans ((sd_tb h rfl).trans ((sd_tb h rfl).trans ((sd_tb h rfl).trans ((sd_tb h rfl).trans (sd_tq h rfl)))))))
theorem sd_z171 {pc : Nat} (h : 40 ≤ pc) : ev_c171 pc = none := ((sd_tb h rfl).trans ((sd_tb h rfl).trans ((sd_tb h rfl).trans ((sd_tb h rfl).trans ((sd_tb h rfl).trans (sd_tq h rfl))))))
theorem sd_z172 {pc : Nat} (h : 29 ≤ pc) : ev_c172 pc = none := ((sd_tb h rfl).trans ((sd_tb h rfl).trans ((sd_tb h rfl).trans ((sd_tb h rfl).trans ((sd_tb h rfl).trans (sd_tq h rfl))))))
theorem sd_z173 {pc : Nat} (h : 115 ≤ pc) : ev_c173 pc = none := ((sd_tb h rfl).trans ((sd_tb h rfl).trans ((sd_tb h rfl).trans ((sd_tb h rfl).trans ((sd_tb h rfl).trans ((sd_tb h rfl).trans ((sd_tb h rfl).trans (sd_tq h rfl))))))))
theorem sd_z174 {pc : Nat} (h : 120 ≤ pc) : ev_c174 pc = none := ((sd_tb h rfl).trans ((sd_tb h rfl).trans ((sd_tb h rfl).trans ((sd_tb h rfl).trans ((sd_tb h rfl).trans ((sd_tb h rfl).trans ((sd_tb h rfl).trans (sd_tq h rfl))))))))
theorem sd_z175 {pc : Nat} (h : 21 ≤ pc) : ev_c175 pc = none := ((sd_tb h rfl).trans ((sd_tb h rfl).trans ((sd_tb h rfl).trans ((sd_tb h rfl).trans (sd_tq h rfl)))))
theorem sd_z176 {pc : Nat} (h : 43 ≤ pc) : ev_c176 pc = none := ((sd_tb h rfl).trans ((sd_tb h rfl).trans ((sd_tb h rfl).trans ((sd_tb h rfl).trans ((sd_tb h rfl).trans (sd_tq h rfl))))))
theorem sd_z177 {pc : Nat} (h : 157 ≤ pc) : ev_c177 pc = none := ((sd_tb h rfl).trans ((sd_tb h rfl).trans ((sd_tb h rfl).trans ((sd_tb h rfl).trans ((sd_tb h rfl).trans ((sd_tb h rfl).trans ((sd_tb h rfl).trans (sd_tq h rfl))))))))
theorem sd_z178 {pc : Nat} (h : 166 ≤ pc) : ev_c178 pc = none := ((sd_tb h rfl).trans ((sd_tb h rfl).trans ((sd_tb h rfl).trans ((sd_tb h rfl).trans ((sd_tb h rfl).trans ((sd_tb h rfl).trans ((sd_tb h rfl).trans (sd_tq h rfl))))))))
theorem sd_z179 {pc : Nat} (h : 118 ≤ pc) : ev_c179 pc = none := ((sd_tb h rfl).trans ((sd_tb h rfl).trans ((sd_tb h rfl).trans ((sd_tb h rfl).trans ((sd_tb h rfl).trans ((sd_tb h rfl).trans ((sd_tb h rfl).trans (sd_tq h rfl))))))))
theorem sd_z180 {pc : Nat} (h : 63 ≤ pc) : ev_c180 pc = none := ((sd_tb h rfl).trans ((sd_tb h rfl).trans ((sd_tb h rfl).trans ((sd_tb h rfl).trans ((sd_tb h rfl).trans ((sd_tb h rfl).trans (sd_tq h rfl)))))))
theorem sd_z181 {pc : Nat} (h : 93 ≤ pc) : ev_c181 pc = none := ((sd_tb h rfl).trans ((sd_tb h rfl).trans ((sd_tb h rfl).trans ((sd_tb h rfl).trans ((sd_tb h rfl).trans ((sd_tb h rfl).trans (sd_tq h rfl)))))))
theorem sd_z182 {pc : Nat} (h : 186 ≤ pc) : ev_c182 pc = none := ((sd_tb h rfl).trans ((sd_tb h rfl).trans ((sd_tb h rfl).trans ((sd_tb h rfl).trans ((sd_tb h rfl).trans ((sd_tb h rfl).trans ((sd_tb h rfl).trans (sd_tq h rfl))))))))
theorem sd_z183 {pc : Nat} (h : 14 ≤ pc) : ev_c183 pc = none := ((sd_tb h rfl).trans ((sd_tb h rfl).trans ((sd_tb h rfl).trans (sd_tq h rfl))))
theorem sd_z184 {pc : Nat} (h : 14 ≤ pc) : ev_c184 pc = none := ((sd_tb h rfl).trans ((sd_tb h rfl).trans ((sd_tb h rfl).trans (sd_tq h rfl))))
theorem sd_z185 {pc : Nat} (h : 35 ≤ pc) : ev_c185 pc = none := ((sd_tb h rfl).trans ((sd_tb h rfl).trans ((sd_tb h rfl).trans ((sd_tb h rfl).trans ((sd_tb h rfl).trans (sd_tq h rfl))))))
theorem sd_z186 {pc : Nat} (h : 41 ≤ pc) : ev_c186 pc = none := ((sd_tb h rfl).trans ((sd_tb h rfl).trans ((sd_tb h rfl).trans ((sd_tb h rfl).trans ((sd_tb h rfl).trans (sd_tq h rfl))))))
theorem sd_z187 {pc : Nat} (h : 51 ≤ pc) : ev_c187 pc = none := ((sd_tb h rfl).trans ((sd_tb h rfl).trans ((sd_tb h rfl).trans ((sd_tb h rfl).trans ((sd_tb h rfl).trans (sd_tq h rfl))))))
theorem sd_z188 {pc : Nat} (h : 34 ≤ pc) : ev_c188 pc = none := ((sd_tb h rfl).trans ((sd_tb h rfl).trans ((sd_tb h rfl).trans ((sd_tb h rfl).trans ((sd_tb h rfl).trans (sd_tq h rfl))))))
theorem sd_z189 {pc : Nat} (h : 38 ≤ pc) : ev_c189 pc = none := ((sd_tb h rfl).trans ((sd_tb h rfl).trans ((sd_tb h rfl).trans ((sd_tb h rfl).trans ((sd_tb h rfl).trans (sd_tq h rfl))))))
theorem sd_z190 {pc : Nat} (h : 123 ≤ pc) : ev_c190 pc = none := ((sd_tb h rfl).trans ((sd_tb h rfl).trans ((sd_tb h rfl).trans ((sd_tb h rfl).trans ((sd_tb h rfl).trans ((sd_tb h rfl).trans (sd_tq h rfl)))))))
theorem sd_z191 {pc : Nat} (h : 26 ≤ pc) : ev_c191 pc = none := ((sd_tb h rfl).trans ((sd_tb h rfl).trans ((sd_tb h rfl).trans ((sd_tb h rfl).trans (sd_tq h rfl)))))
theorem sd_z192 {pc : Nat} (h : 21 ≤ pc) : ev_c192 pc = none := ((sd_tb h rfl).trans ((sd_tb h rfl).trans ((sd_tb h rfl).trans ((sd_tb h rfl).trans (sd_tq h rfl)))))
theorem sd_z193 {pc : Nat} (h : 22 ≤ pc) : ev_c193 pc = none := ((sd_tb h rfl).trans ((sd_tb h rfl).trans ((sd_tb h rfl).trans ((sd_tb h rfl).trans (sd_tq h rfl)))))
theorem sd_z194 {pc : Nat} (h : 17 ≤ pc) : ev_c194 pc = none := ((sd_tb h rfl).trans ((sd_tb h rfl).trans ((sd_tb h rfl).trans ((sd_tb h rfl).trans (sd_tq h rfl)))))
theorem sd_z195 {pc : Nat} (h : 28 ≤ pc) : ev_c195 pc = none := ((sd_tb h rfl).trans ((sd_tb h rfl).trans ((sd_tb h rfl).trans ((sd_tb h rfl).trans (sd_tq h rfl)))))
theorem sd_z196 {pc : Nat} (h : 18 ≤ pc) : ev_c196 pc = none := ((sd_tb h rfl).trans ((sd_tb h rfl).trans ((sd_tb h rfl).trans ((sd_tb h rfl).trans (sd_tq h rfl)))))
theorem sd_z197 {pc : Nat} (h : 69 ≤ pc) : ev_c197 pc = none := ((sd_tb h rfl).trans ((sd_tb h rfl).trans ((sd_tb h rfl).trans ((sd_tb h rfl).trans ((sd_tb h rfl).trans ((sd_tb h rfl).trans (sd_tq h rfl)))))))
theorem sd_z198 {pc : Nat} (h : 179 ≤ pc) : ev_c198 pc = none := ((sd_tb h rfl).trans ((sd_tb h rfl).trans ((sd_tb h rfl).trans ((sd_tb h rfl).trans ((sd_tb h rfl).trans ((sd_tb h rfl).trans ((sd_tb h rfl).trans (sd_tq h rfl))))))))
theorem sd_z199 {pc : Nat} (h : 41 ≤ pc) : ev_c199 pc = none := ((sd_tb h rfl).trans ((sd_tb h rfl).trans ((sd_tb h rfl).trans ((sd_tb h rfl).trans ((sd_tb h rfl).trans (sd_tq h rfl))))))
theorem sd_z200 {pc : Nat} (h : 33 ≤ pc) : ev_c200 pc = none := ((sd_tb h rfl).trans ((sd_tb h rfl).trans ((sd_tb h rfl).trans ((sd_tb h rfl).trans ((sd_tb h rfl).trans (sd_tq h rfl))))))
theorem sd_z201 {pc : Nat} (h : 65 ≤ pc) : ev_c201 pc = none := ((sd_tb h rfl).trans ((sd_tb h rfl).trans ((sd_tb h rfl).trans ((sd_tb h rfl).trans ((sd_tb h rfl).trans ((sd_tb h rfl).trans (sd_tq h rfl)))))))
theorem sd_z202 {pc : Nat} (h : 100 ≤ pc) : ev_c202 pc = none := ((sd_tb h rfl).trans ((sd_tb h rfl).trans ((sd_tb h rfl).trans ((sd_tb h rfl).trans ((sd_tb h rfl).trans ((sd_tb h rfl).trans (sd_tq h rfl)))))))
theorem sd_z203 {pc : Nat} (h : 59 ≤ pc) : ev_c203 pc = none := ((sd_tb h rfl).trans ((sd_tb h rfl).trans ((sd_tb h rfl).trans ((sd_tb h rfl).trans ((sd_tb h rfl).trans ((sd_tb h rfl).trans (sd_tq h rfl)))))))
theorem sd_z204 {pc : Nat} (h : 22 ≤ pc) : ev_c204 pc = none := ((sd_tb h rfl).trans ((sd_tb h rfl).trans ((sd_tb h rfl).trans ((sd_tb h rfl).trans (sd_tq h rfl)))))
theorem sd_z205 {pc : Nat} (h : 31 ≤ pc) : ev_c205 pc = none := ((sd_tb h rfl).trans ((sd_tb h rfl).trans ((sd_tb h rfl).trans ((sd_tb h rfl).trans ((sd_tb h rfl).trans (sd_tq h rfl))))))
theorem sd_z206 {pc : Nat} (h : 81 ≤ pc) : ev_c206 pc = none := ((sd_tb h rfl).trans ((sd_tb h rfl).trans ((sd_tb h rfl).trans ((sd_tb h rfl).trans ((sd_tb h rfl).trans ((sd_tb h rfl).trans (sd_tq h rfl)))))))
theorem sd_z207 {pc : Nat} (h : 77 ≤ pc) : ev_c207 pc = none := ((sd_tb h rfl).trans ((sd_tb h rfl).trans ((sd_tb h rfl).trans ((sd_tb h rfl).trans ((sd_tb h rfl).trans ((sd_tb h rfl).trans (sd_tq h rfl)))))))
theorem sd_z208 {pc : Nat} (h : 59 ≤ pc) : ev_c208 pc = none := ((sd_tb h rfl).trans ((sd_tb h rfl).trans ((sd_tb h rfl).trans ((sd_tb h rfl).trans ((sd_tb h rfl).trans ((sd_tb h rfl).trans (sd_tq h rfl)))))))
theorem sd_z209 {pc : Nat} (h : 33 ≤ pc) : ev_c209 pc = none := ((sd_tb h rfl).trans ((sd_tb h rfl).trans ((sd_tb h rfl).trans ((sd_tb h rfl).trans ((sd_tb h rfl).trans (sd_tq h rfl))))))
theorem sd_z210 {pc : Nat} (h : 13 ≤ pc) : ev_c210 pc = none := ((sd_tb h rfl).trans ((sd_tb h rfl).trans ((sd_tb h rfl).trans (sd_tq h rfl))))
theorem sd_z211 {pc : Nat} (h : 59 ≤ pc) : ev_c211 pc = none := ((sd_tb h rfl).trans ((sd_tb h rfl).trans ((sd_tb h rfl).trans ((sd_tb h rfl).trans ((sd_tb h rfl).trans ((sd_tb h rfl).trans (sd_tq h rfl)))))))
theorem sd_z212 {pc : Nat} (h : 41 ≤ pc) : ev_c212 pc = none := ((sd_tb h rfl).trans ((sd_tb h rfl).trans ((sd_tb h rfl).trans ((sd_tb h rfl).trans ((sd_tb h rfl).trans (sd_tq h rfl))))))
theorem sd_z213 {pc : Nat} (h : 69 ≤ pc) : ev_c213 pc = none := ((sd_tb h rfl).trans ((sd_tb h rfl).trans ((sd_tb h rfl).trans ((sd_tb h rfl).trans ((sd_tb h rfl).trans ((sd_tb h rfl).trans (sd_tq h rfl)))))))
theorem sd_z214 {pc : Nat} (h : 61 ≤ pc) : ev_c214 pc = none := ((sd_tb h rfl).trans ((sd_tb h rfl).trans ((sd_tb h rfl).trans ((sd_tb h rfl).trans ((sd_tb h rfl).trans ((sd_tb h rfl).trans (sd_tq h rfl)))))))
theorem sd_z215 {pc : Nat} (h : 98 ≤ pc) : ev_c215 pc = none := ((sd_tb h rfl).trans ((sd_tb h rfl).trans ((sd_tb h rfl).trans ((sd_tb h rfl).trans ((sd_tb h rfl).trans ((sd_tb h rfl).trans (sd_tq h rfl)))))))
theorem sd_z216 {pc : Nat} (h : 62 ≤ pc) : ev_c216 pc = none := ((sd_tb h rfl).trans ((sd_tb h rfl).trans ((sd_tb h rfl).trans ((sd_tb h rfl).trans ((sd_tb h rfl).trans ((sd_tb h rfl).trans (sd_tq h rfl)))))))
theorem sd_z217 {pc : Nat} (h : 44 ≤ pc) : ev_c217 pc = none := ((sd_tb h rfl).trans ((sd_tb h rfl).trans ((sd_tb h rfl).trans ((sd_tb h rfl).trans ((sd_tb h rfl).trans (sd_tq h rfl))))))
theorem sd_z218 {pc : Nat} (h : 30 ≤ pc) : ev_c218 pc = none := ((sd_tb h rfl).trans ((sd_tb h rfl).trans ((sd_tb h rfl).trans ((sd_tb h rfl).trans ((sd_tb h rfl).trans (sd_tq h rfl))))))
theorem sd_z219 {pc : Nat} (h : 89 ≤ pc) : ev_c219 pc = none := ((sd_tb h rfl).trans ((sd_tb h rfl).trans ((sd_tb h rfl).trans ((sd_tb h rfl).trans ((sd_tb h rfl).trans ((sd_tb h rfl).trans (sd_tq h rfl)))))))
theorem sd_z220 {pc : Nat} (h : 49 ≤ pc) : ev_c220 pc = none := ((sd_tb h rfl).trans ((sd_tb h rfl).trans ((sd_tb h rfl).trans ((sd_tb h rfl).trans ((sd_tb h rfl).trans (sd_tq h rfl))))))
theorem sd_z221 {pc : Nat} (h : 12 ≤ pc) : ev_c221 pc = none := ((sd_tb h rfl).trans ((sd_tb h rfl).trans ((sd_tb h rfl).trans (sd_tq h rfl))))
theorem sd_z222 {pc : Nat} (h : 43 ≤ pc) : ev_c222 pc = none := ((sd_tb h rfl).trans ((sd_tb h rfl).trans ((sd_tb h rfl).trans ((sd_tb h rfl).trans ((sd_tb h rfl).trans (sd_tq h rfl))))))
theorem sd_z223 {pc : Nat} (h : 62 ≤ pc) : ev_c223 pc = none := ((sd_tb h rfl).trans ((sd_tb h rfl).trans ((sd_tb h rfl).trans ((sd_tb h rfl).trans ((sd_tb h rfl).trans ((sd_tb h rfl).trans (sd_tq h rfl)))))))
theorem sd_z224 {pc : Nat} (h : 17 ≤ pc) : ev_c224 pc = none := ((sd_tb h rfl).trans ((sd_tb h rfl).trans ((sd_tb h rfl).trans ((sd_tb h rfl).trans (sd_tq h rfl)))))
theorem sd_z225 {pc : Nat} (h : 17 ≤ pc) : ev_c225 pc = none := ((sd_tb h rfl).trans ((sd_tb h rfl).trans ((sd_tb h rfl).trans ((sd_tb h rfl).trans (sd_tq h rfl)))))
theorem sd_z226 {pc : Nat} (h : 17 ≤ pc) : ev_c226 pc = none := ((sd_tb h rfl).trans ((sd_tb h rfl).trans ((sd_tb h rfl).trans ((sd_tb h rfl).trans (sd_tq h rfl)))))
theorem sd_z227 {pc : Nat} (h : 23 ≤ pc) : ev_c227 pc = none := ((sd_tb h rfl).trans ((sd_tb h rfl).trans ((sd_tb h rfl).trans ((sd_tb h rfl).trans ((sd_tb h rfl).trans (sd_tq h rfl))))))
theorem sd_z228 {pc : Nat} (h : 25 ≤ pc) : ev_c228 pc = none := ((sd_tb h rfl).trans ((sd_tb h rfl).trans ((sd_tb h rfl).trans ((sd_tb h rfl).trans ((sd_tb h rfl).trans (sd_tq h rfl))))))
theorem sd_z229 {pc : Nat} (h : 23 ≤ pc) : ev_c229 pc = none := ((sd_tb h rfl).trans ((sd_tb h rfl).trans ((sd_tb h rfl).trans ((sd_tb h rfl).trans ((sd_tb h rfl).trans (sd_tq h rfl))))))
theorem sd_z230 {pc : Nat} (h : 19 ≤ pc) : ev_c230 pc = none := ((sd_tb h rfl).trans ((sd_tb h rfl).trans ((sd_tb h rfl).trans ((sd_tb h rfl).trans (sd_tq h rfl)))))
theorem sd_z231 {pc : Nat} (h : 23 ≤ pc) : ev_c231 pc = none := ((sd_tb h rfl).trans ((sd_tb h rfl).trans ((sd_tb h rfl).trans ((sd_tb h rfl).trans ((sd_tb h rfl).trans (sd_tq h rfl))))))
theorem sd_z232 {pc : Nat} (h : 17 ≤ pc) : ev_c232 pc = none := ((sd_tb h rfl).trans ((sd_tb h rfl).trans ((sd_tb h rfl).trans ((sd_tb h rfl).trans (sd_tq h rfl)))))
theorem sd_z233 {pc : Nat} (h : 19 ≤ pc) : ev_c233 pc = none := ((sd_tb h rfl).trans ((sd_tb h rfl).trans ((sd_tb h rfl).trans ((sd_tb h rfl).trans (sd_tq h rfl)))))
theorem sd_z234 {pc : Nat} (h : 17 ≤ pc) : ev_c234 pc = none := ((sd_tb h rfl).trans ((sd_tb h rfl).trans ((sd_tb h rfl).trans ((sd_tb h rfl).trans (sd_tq h rfl)))))
theorem sd_z235 {pc : Nat} (h : 17 ≤ pc) : ev_c235 pc = none := ((sd_tb h rfl).trans ((sd_tb h rfl).trans ((sd_tb h rfl).trans ((sd_tb h rfl).trans (sd_tq h rfl)))))
theorem sd_z236 {pc : Nat} (h : 17 ≤ pc) : ev_c236 pc = none := ((sd_tb h rfl).trans ((sd_tb h rfl).trans ((sd_tb h rfl).trans ((sd_tb h rfl).trans (sd_tq h rfl)))))
theorem sd_z237 {pc : Nat} (h : 20 ≤ pc) : ev_c237 pc = none := ((sd_tb h rfl).trans ((sd_tb h rfl).trans ((sd_tb h rfl).trans ((sd_tb h rfl).trans (sd_tq h rfl)))))
theorem sd_z238 {pc : Nat} (h : 23 ≤ pc) : ev_c238 pc = none := ((sd_tb h rfl).trans ((sd_tb h rfl).trans ((sd_tb h rfl).trans ((sd_tb h rfl).trans ((sd_tb h rfl).trans (sd_tq h rfl))))))
theorem sd_z239 {pc : Nat} (h : 27 ≤ pc) : ev_c239 pc = none := ((sd_tb h rfl).trans ((sd_tb h rfl).trans ((sd_tb h rfl).trans ((sd_tb h rfl).trans ((sd_tb h rfl).trans (sd_tq h rfl))))))
theorem sd_z240 {pc : Nat} (h : 19 ≤ pc) : ev_c240 pc = none := ((sd_tb h rfl).trans ((sd_tb h rfl).trans ((sd_tb h rfl).trans ((sd_tb h rfl).trans (sd_tq h rfl)))))
theorem sd_z241 {pc : Nat} (h : 24 ≤ pc) : ev_c241 pc = none := ((sd_tb h rfl).trans ((sd_tb h rfl).trans ((sd_tb h rfl).trans ((sd_tb h rfl).trans (sd_tq h rfl)))))
theorem sd_z242 {pc : Nat} (h : 20 ≤ pc) : ev_c242 pc = none := ((sd_tb h rfl).trans ((sd_tb h rfl).trans ((sd_tb h rfl).trans ((sd_tb h rfl).trans (sd_tq h rfl)))))
theorem sd_z243x {pc : Nat} (h : 1600 ≤ pc) : ev_c243_15 pc = none := ((sd_tb h rfl).trans ((sd_tb h rfl).trans ((sd_tb h rfl).trans ((sd_tb h rfl).trans ((sd_tb h rfl).trans ((sd_tb h rfl).trans (sd_tq h rfl)))))))
theorem sd_z243 {pc : Nat} (h : 1600 ≤ pc) : ev_c243 pc = none := ((sd_tb h rfl).trans ((sd_tb h rfl).trans ((sd_tb h rfl).trans ((sd_tb h rfl).trans (sd_z243x h)))))
theorem sd_zl0 : ∀ m ∈ [0, 1, 2, 3, 4, 5, 6, 7, 8, 9, 10, 11, 12, 13, 14, 15], ∀ pc, sd_sz m ≤ pc → ev_code m pc = none := List.forall_mem_cons.mpr ⟨fun pc h => sd_z0 h, List.forall_mem_cons.mpr ⟨fun pc h => sd_z1 h, List.forall_mem_cons.mpr ⟨fun pc h => sd_z2 h, List.forall_mem_cons.mpr ⟨fun pc h => sd_z3 h, List.forall_mem_cons.mpr ⟨fun pc h => sd_z4 h, List.forall_mem_cons.mpr ⟨fun pc h => sd_z5 h, List.forall_mem_cons.mpr ⟨fun pc h => sd_z6 h, List.forall_mem_cons.mpr ⟨fun pc h => sd_z7 h, List.forall_mem_cons.mpr ⟨fun pc h => sd_z8 h, List.forall_mem_cons.mpr ⟨fun pc h => sd_z9 h, List.forall_mem_cons.mpr ⟨fun pc h => sd_z10 h, List.forall_mem_cons.mpr ⟨fun pc h => sd_z11 h, List.forall_mem_cons.mpr ⟨fun pc h => sd_z12 h, List.forall_mem_cons.mpr ⟨fun pc h => sd_z13 h, List.forall_mem_cons.mpr ⟨fun pc h => sd_z14 h, List.forall_mem_cons.mpr ⟨fun pc h => sd_z15 h, fun _ h => nomatch h⟩⟩⟩⟩⟩⟩⟩⟩⟩⟩⟩⟩⟩⟩⟩⟩
theorem sd_zl1 : ∀ m ∈ [16, 17, 18, 19, 20, 21, 22, 23, 24, 25, 26, 27, 28, 29, 30, 31], ∀ pc, sd_sz m ≤ pc → ev_code m pc = none := List.forall_mem_cons.mpr ⟨fun pc h => sd_z16 h, List.forall_mem_cons.mpr ⟨fun pc h => sd_z17 h, List.forall_mem_cons.mpr ⟨fun pc h => sd_z18 h, List.forall_mem_cons.mpr ⟨fun pc h => sd_z19 h, List.forall_mem_cons.mpr ⟨fun pc h => sd_z20 h, List.forall_mem_cons.mpr ⟨fun pc h => sd_z21 h, List.forall_mem_cons.mpr ⟨fun pc h => sd_z22 h, List.forall_mem_cons.mpr ⟨fun pc h => sd_z23 h, List.forall_mem_cons.mpr ⟨fun pc h => sd_z24 h, List.forall_mem_cons.mpr ⟨fun pc h => sd_z25 h, List.forall_mem_cons.mpr ⟨fun pc h => sd_z26 h, List.forall_mem_cons.mpr ⟨fun pc h => sd_z27 h, List.forall_mem_cons.mpr ⟨fun pc h => sd_z28 h, List.forall_mem_cons.mpr ⟨fun pc h => sd_z29 h, List.forall_mem_cons.mpr ⟨fun pc h => sd_z30 h, List.forall_mem_cons.mpr ⟨fun pc h => sd_z31 h, fun _ h => nomatch h⟩⟩⟩⟩⟩⟩⟩⟩⟩⟩⟩⟩⟩⟩⟩⟩
theorem sd_zl2 : ∀ m ∈ [32, 33, 34, 35, 36, 37, 38, 39, 40, 41, 42, 43, 44, 45, 46, 47], ∀ pc, sd_sz m ≤ pc → ev_code m pc = none := List.forall_mem_cons.mpr ⟨fun pc h => sd_z32 h, List.forall_mem_cons.mpr ⟨fun pc h => sd_z33 h, List.forall_mem_cons.mpr ⟨fun pc h => sd_z34 h, List.forall_mem_cons.mpr ⟨fun pc h => sd_z35 h, List.forall_mem_cons.mpr ⟨fun pc h => sd_z36 h, List.forall_mem_cons.mpr ⟨fun pc h => sd_z37 h, List.forall_mem_cons.mpr ⟨fun pc h => sd_z38 h, List.forall_mem_cons.mpr ⟨fun pc h => sd_z39 h, List.forall_mem_cons.mpr ⟨fun pc h => sd_z40 h, List.forall_mem_cons.mpr ⟨fun pc h => sd_z41 h, List.forall_mem_cons.mpr ⟨fun pc h => sd_z42 h, List.forall_mem_cons.mpr ⟨fun pc h => sd_z43 h, List.forall_mem_cons.mpr ⟨fun pc h => sd_z44 h, List.forall_mem_cons.mpr ⟨fun pc h => sd_z45 h, List.forall_mem_cons.mpr ⟨fun pc h => sd_z46 h, List.forall_mem_cons.mpr ⟨fun pc h => sd_z47 h, fun _ h => nomatch h⟩⟩⟩⟩⟩⟩⟩⟩⟩⟩⟩⟩⟩⟩⟩⟩
theorem sd_zl3 : ∀ m ∈ [48, 49, 50, 51, 52, 53, 54, 55, 56, 57, 58, 59, 60, 61, 62, 63], ∀ pc, sd_sz m ≤ pc → ev_code m pc = none := List.forall_mem_cons.mpr ⟨fun pc h => sd_z48 h, List.forall_mem_cons.mpr ⟨fun pc h => sd_z49 h, List.forall_mem_cons.mpr ⟨fun pc h => sd_z50 h, List.forall_mem_cons.mpr ⟨fun pc h => sd_z51 h, List.forall_mem_cons.mpr ⟨fun pc h => sd_z52 h, List.forall_mem_cons.mpr ⟨fun pc h => sd_z53 h, List.forall_mem_cons.mpr ⟨fun pc h => sd_z54 h, List.forall_mem_cons.mpr ⟨fun pc h => sd_z55 h, List.forall_mem_cons.mpr ⟨fun pc h => sd_z56 h, List.forall_mem_cons.mpr ⟨fun pc h => sd_z57 h, List.forall_mem_cons.mpr ⟨fun pc h => sd_z58 h, List.forall_mem_cons.mpr ⟨fun pc h => sd_z59 h, List.forall_mem_cons.mpr ⟨fun pc h => sd_z60 h, List.forall_mem_cons.mpr ⟨fun pc h => sd_z61 h, List.forall_mem_cons.mpr ⟨fun pc h => sd_z62 h, List.forall_mem_cons.mpr ⟨fun pc h => sd_z63 h, fun _ h => nomatch h⟩⟩⟩⟩⟩⟩⟩⟩⟩⟩⟩⟩⟩⟩⟩⟩
theorem sd_zl4 : ∀ m ∈ [64, 65, 66, 67, 68, 69, 70, 71, 72, 73, 74, 75, 76, 77, 78, 79], ∀ pc, sd_sz m ≤ pc → ev_code m pc = none := List.forall_mem_cons.mpr ⟨fun pc h => sd_z64 h, List.forall_mem_cons.mpr ⟨fun pc h => sd_z65 h, List.forall_mem_cons.mpr ⟨fun pc h => sd_z66 h, List.forall_mem_cons.mpr ⟨fun pc h => sd_z67 h, List.forall_mem_cons.mpr ⟨fun pc h => sd_z68 h, List.forall_mem_cons.mpr ⟨fun pc h => sd_z69 h, List.forall_mem_cons.mpr ⟨fun pc h => sd_z70 h, List.forall_mem_cons.mpr ⟨fun pc h => sd_z71 h, List.forall_mem_cons.mpr ⟨fun pc h => sd_z72 h, List.forall_mem_cons.mpr ⟨fun pc h => sd_z73 h, List.forall_mem_cons.mpr ⟨fun pc h => sd_z74 h, List.forall_mem_cons.mpr ⟨fun pc h => sd_z75 h, List.forall_mem_cons.mpr ⟨fun pc h => sd_z76 h, List.forall_mem_cons.mpr ⟨fun pc h => sd_z77 h, List.forall_mem_cons.mpr ⟨fun pc h => sd_z78 h, List.forall_mem_cons.mpr ⟨fun pc h => sd_z79 h, fun _ h => nomatch h⟩⟩⟩⟩⟩⟩⟩⟩⟩⟩⟩⟩⟩⟩⟩⟩
theorem sd_zl5 : ∀ m ∈ [80, 81, 82, 83, 84, 85, 86, 87, 88, 89, 90, 91, 92, 93, 94, 95], ∀ pc, sd_sz m ≤ pc → ev_code m pc = none := List.forall_mem_cons.mpr ⟨fun pc h => sd_z80 h, List.forall_mem_cons.mpr ⟨fun pc h => sd_z81 h, List.forall_mem_cons.mpr ⟨fun pc h => sd_z82 h, List.forall_mem_cons.mpr ⟨fun pc h => sd_z83 h, List.forall_mem_cons.mpr ⟨fun pc h => sd_z84 h, List.forall_mem_cons.mpr ⟨fun pc h => sd_z85 h, List.forall_mem_cons.mpr ⟨fun pc h => sd_z86 h, List.forall_mem_cons.mpr ⟨fun pc h => sd_z87 h, List.forall_mem_cons.mpr ⟨fun pc h => sd_z88 h, List.forall_mem_cons.mpr ⟨fun pc h => sd_z89 h, List.forall_mem_cons.mpr ⟨fun pc h => sd_z90 h, List.forall_mem_cons.mpr ⟨fun pc h => sd_z91 h, List.forall_mem_cons.mpr ⟨fun pc h => sd_z92 h, List.forall_mem_cons.mpr ⟨fun pc h => sd_z93 h, List.forall_mem_cons.mpr ⟨fun pc h => sd_z94 h, List.forall_mem_cons.mpr ⟨fun pc h => sd_z95 h, fun _ h => nomatch h⟩⟩⟩⟩⟩⟩⟩⟩⟩⟩⟩⟩⟩⟩⟩⟩
theorem sd_zl6 : ∀ m ∈ [96, 97, 98, 99, 100, 101, 102, 103, 104, 105, 106, 107, 108, 109, 110, 111], ∀ pc, sd_sz m ≤ pc → ev_code m pc = none := List.forall_mem_cons.mpr ⟨fun pc h => sd_z96 h, List.forall_mem_cons.mpr ⟨fun pc h => sd_z97 h, List.forall_mem_cons.mpr ⟨fun pc h => sd_z98 h, List.forall_mem_cons.mpr ⟨fun pc h => sd_z99 h, List.forall_mem_cons.mpr ⟨fun pc h => sd_z100 h, List.forall_mem_cons.mpr ⟨fun pc h => sd_z101 h, List.forall_mem_cons.mpr ⟨fun pc h => sd_z102 h, List.forall_mem_cons.mpr ⟨fun pc h => sd_z103 h, List.forall_mem_cons.mpr ⟨fun pc h => sd_z104 h, List.forall_mem_cons.mpr ⟨fun pc h => sd_z105 h, List.forall_mem_cons.mpr ⟨fun pc h => sd_z106 h, List.forall_mem_cons.mpr ⟨fun pc h => sd_z107 h, List.forall_mem_cons.mpr ⟨fun pc h => sd_z108 h, List.forall_mem_cons.mpr ⟨fun pc h => sd_z109 h, List.forall_mem_cons.mpr ⟨fun pc h => sd_z110 h, List.forall_mem_cons.mpr ⟨fun pc h => sd_z111 h, fun _ h => nomatch h⟩⟩⟩⟩⟩⟩⟩⟩⟩⟩⟩⟩⟩⟩⟩⟩
theorem sd_zl7 : ∀ m ∈ [112, 113, 114, 115, 116, 117, 118, 119, 120, 121, 122, 123, 124, 125, 126, 127], ∀ pc, sd_sz m ≤ pc → ev_code m pc = none := List.forall_mem_cons.mpr ⟨fun pc h => sd_z112 h, List.forall_mem_cons.mpr ⟨fun pc h => sd_z113 h, List.forall_mem_cons.mpr ⟨fun pc h => sd_z114 h, List.forall_mem_cons.mpr ⟨fun pc h => sd_z115 h, List.forall_mem_cons.mpr ⟨fun pc h => sd_z116 h, List.forall_mem_cons.mpr ⟨fun pc h => sd_z117 h, List.forall_mem_cons.mpr ⟨fun pc h => sd_z118 h, List.forall_mem_cons.mpr ⟨fun pc h => sd_z119 h, List.forall_mem_cons.mpr ⟨fun pc h => sd_z120 h, List.forall_mem_cons.mpr ⟨fun pc h => sd_z121 h, List.forall_mem_cons.mpr ⟨fun pc h => sd_z122 h, List.forall_mem_cons.mpr ⟨fun pc h => sd_z123 h, List.forall_mem_cons.mpr ⟨fun pc h => sd_z124 h, List.forall_mem_cons.mpr ⟨fun pc h => sd_z125 h, List.forall_mem_cons.mpr ⟨fun pc h => sd_z126 h, List.forall_mem_cons.mpr ⟨fun pc h => sd_z127 h, fun _ h => nomatch h⟩⟩⟩⟩⟩⟩⟩⟩⟩⟩⟩⟩⟩⟩⟩⟩
theorem sd_zl8 : ∀ m ∈ [128, 129, 130, 131, 132, 133, 134, 135, 136, 137, 138, 139, 140, 141, 142, 143], ∀ pc, sd_sz m ≤ pc → ev_code m pc = none := List.forall_mem_cons.mpr ⟨fun pc h => sd_z128 h, List.forall_mem_cons.mpr ⟨fun pc h => sd_z129 h, List.forall_mem_cons.mpr ⟨fun pc h => sd_z130 h, List.forall_mem_cons.mpr ⟨fun pc h => sd_z131 h, List.forall_mem_cons.mpr ⟨fun pc h => sd_z132 h, List.forall_mem_cons.mpr ⟨fun pc h => sd_z133 h, List.forall_mem_cons.mpr ⟨fun pc h => sd_z134 h, List.forall_mem_cons.mpr ⟨fun pc h => sd_z135 h, List.forall_mem_cons.mpr ⟨fun pc h => sd_z136 h, List.forall_mem_cons.mpr ⟨fun pc h => sd_z137 h, List.forall_mem_cons.mpr ⟨fun pc h => sd_z138 h, List.forall_mem_cons.mpr ⟨fun pc h => sd_z139 h, List.forall_mem_cons.mpr ⟨fun pc h => sd_z140 h, List.forall_mem_cons.mpr ⟨fun pc h => sd_z141 h, List.forall_mem_cons.mpr ⟨fun pc h => sd_z142 h, List.forall_mem_cons.mpr ⟨fun pc h => sd_z143 h, fun _ h => nomatch h⟩⟩⟩⟩⟩⟩⟩⟩⟩⟩⟩⟩⟩⟩⟩⟩
theorem sd_zl9 : ∀ m ∈ [144, 145, 146, 147, 148, 149, 150, 151, 152, 153, 154, 155, 156, 157, 158, 159], ∀ pc, sd_sz m ≤ pc → ev_code m pc = none := List.forall_mem_cons.mpr ⟨fun pc h => sd_z144 h, List.forall_mem_cons.mpr ⟨fun pc h => sd_z145 h, List.forall_mem_cons.mpr ⟨fun pc h => sd_z146 h, List.forall_mem_cons.mpr ⟨fun pc h => sd_z147 h, List.forall_mem_cons.mpr ⟨fun pc h => sd_z148 h, List.forall_mem_cons.mpr ⟨fun pc h => sd_z149 h, List.forall_mem_cons.mpr ⟨fun pc h => sd_z150 h, List.forall_mem_cons.mpr ⟨fun pc h => sd_z151 h, List.forall_mem_cons.mpr ⟨fun pc h => sd_z152 h, List.forall_mem_cons.mpr ⟨fun pc h => sd_z153 h, List.forall_mem_cons.mpr ⟨fun pc h => sd_z154 h, List.forall_mem_cons.mpr ⟨fun pc h => sd_z155 h, List.forall_mem_cons.mpr ⟨fun pc h => sd_z156 h, List.forall_mem_cons.mpr ⟨fun pc h => sd_z157 h, List.forall_mem_cons.mpr ⟨fun pc h => sd_z158 h, List.forall_mem_cons.mpr ⟨fun pc h => sd_z159 h, fun _ h => nomatch h⟩⟩⟩⟩⟩⟩⟩⟩⟩⟩⟩⟩⟩⟩⟩⟩
theorem sd_zl10 : ∀ m ∈ [160, 161, 162, 163, 164, 165, 166, 167, 168, 169, 170, 171, 172, 173, 174, 175], ∀ pc, sd_sz m ≤ pc → ev_code m pc = none := List.forall_mem_cons.mpr ⟨fun pc h => sd_z160 h, List.forall_mem_cons.mpr ⟨fun pc h => sd_z161 h, List.forall_mem_cons.mpr ⟨fun pc h => sd_z162 h, List.forall_mem_cons.mpr ⟨fun pc h => sd_z163 h, List.forall_mem_cons.mpr ⟨fun pc h => sd_z164 h, List.forall_mem_cons.mpr ⟨fun pc h => sd_z165 h, List.forall_mem_cons.mpr ⟨fun pc h => sd_z166 h, List.forall_mem_cons.mpr ⟨fun pc h => sd_z167 h, List.forall_mem_cons.mpr ⟨fun pc h => sd_z168 h, List.forall_mem_cons.mpr ⟨fun pc h => sd_z169 h, List.forall_mem_cons.mpr ⟨fun pc h => sd_z170 h, List.forall_mem_cons.mpr ⟨fun pc h => sd_z171 h, List.forall_mem_cons.mpr ⟨fun pc h => sd_z172 h, List.forall_mem_cons.mpr ⟨fun pc h => sd_z173 h, List.forall_mem_cons.mpr ⟨fun pc h => sd_z174 h, List.forall_mem_cons.mpr ⟨fun pc h => sd_z175 h, fun _ h => nomatch h⟩⟩⟩⟩⟩⟩⟩⟩⟩⟩⟩⟩⟩⟩⟩⟩
theorem sd_zl11 : ∀ m ∈ [176, 177, 178, 179, 180, 181, 182, 183, 184, 185, 186, 187, 188, 189, 190, 191], ∀ pc, sd_sz m ≤ pc → ev_code m pc = none := List.forall_mem_cons.mpr ⟨fun pc h => sd_z176 h, List.forall_mem_cons.mpr ⟨fun pc h => sd_z177 h, List.forall_mem_cons.mpr ⟨fun pc h => sd_z178 h, List.forall_mem_cons.mpr ⟨fun pc h => sd_z179 h, List.forall_mem_cons.mpr ⟨fun pc h => sd_z180 h, List.forall_mem_cons.mpr ⟨fun pc h => sd_z181 h, List.forall_mem_cons.mpr ⟨fun pc h => sd_z182 h, List.forall_mem_cons.mpr ⟨fun pc h => sd_z183 h, List.forall_mem_cons.mpr ⟨fun pc h => sd_z184 h, List.forall_mem_cons.mpr ⟨fun pc h => sd_z185 h, List.forall_mem_cons.mpr ⟨fun pc h => sd_z186 h, List.forall_mem_cons.mpr ⟨fun pc h => sd_z187 h, List.forall_mem_cons.mpr ⟨fun pc h => sd_z188 h, List.forall_mem_cons.mpr ⟨fun pc h => sd_z189 h, List.forall_mem_cons.mpr ⟨fun pc h => sd_z190 h, List.forall_mem_cons.mpr ⟨fun pc h => sd_z191 h, fun _ h => nomatch h⟩⟩⟩⟩⟩⟩⟩⟩⟩⟩⟩⟩⟩⟩⟩⟩
theorem sd_zl12 : ∀ m ∈ [192, 193, 194, 195, 196, 197, 198, 199, 200, 201, 202, 203, 204, 205, 206, 207], ∀ pc, sd_sz m ≤ pc → ev_code m pc = none := List.forall_mem_cons.mpr ⟨fun pc h => sd_z192 h, List.forall_mem_cons.mpr ⟨fun pc h => sd_z193 h, List.forall_mem_cons.mpr ⟨fun pc h => sd_z194 h, List.forall_mem_cons.mpr ⟨fun pc h => sd_z195 h, List.forall_mem_cons.mpr ⟨fun pc h => sd_z196 h, List.forall_mem_cons.mpr ⟨fun pc h => sd_z197 h, List.forall_mem_cons.mpr ⟨fun pc h => sd_z198 h, List.forall_mem_cons.mpr ⟨fun pc h => sd_z199 h, List.forall_mem_cons.mpr ⟨fun pc h => sd_z200 h, List.forall_mem_cons.mpr ⟨fun pc h => sd_z201 h, List.forall_mem_cons.mpr ⟨fun pc h => sd_z202 h, List.forall_mem_cons.mpr ⟨fun pc h => sd_z203 h, List.forall_mem_cons.mpr ⟨fun pc h => sd_z204 h, List.forall_mem_cons.mpr ⟨fun pc h => sd_z205 h, List.forall_mem_cons.mpr ⟨fun pc h => sd_z206 h, List.forall_mem_cons.mpr ⟨fun pc h => sd_z207 h, fun _ h => nomatch h⟩⟩⟩⟩⟩⟩⟩⟩⟩⟩⟩⟩⟩⟩⟩⟩
theorem sd_zl13 : ∀ m ∈ [208, 209, 210, 211, 212, 213, 214, 215, 216, 217, 218, 219, 220, 221, 222, 223], ∀ pc, sd_sz m ≤ pc → ev_code m pc = none := List.forall_mem_cons.mpr ⟨fun pc h => sd_z208 h, List.forall_mem_cons.mpr ⟨fun pc h => sd_z209 h, List.forall_mem_cons.mpr ⟨fun pc h => sd_z210 h, List.forall_mem_cons.mpr ⟨fun pc h => sd_z211 h, List.forall_mem_cons.mpr ⟨fun pc h => sd_z212 h, List.forall_mem_cons.mpr ⟨fun pc h => sd_z213 h, List.forall_mem_cons.mpr ⟨fun pc h => sd_z214 h, List.forall_mem_cons.mpr ⟨fun pc h => sd_z215 h, List.forall_mem_cons.mpr ⟨fun pc h => sd_z216 h, List.forall_mem_cons.mpr ⟨fun pc h => sd_z217 h, List.forall_mem_cons.mpr ⟨fun pc h => sd_z218 h, List.forall_mem_cons.mpr ⟨fun pc h => sd_z219 h, List.forall_mem_cons.mpr ⟨fun pc h => sd_z220 h, List.forall_mem_cons.mpr ⟨fun pc h => sd_z221 h, List.forall_mem_cons.mpr ⟨fun pc h => sd_z222 h, List.forall_mem_cons.mpr ⟨fun pc h => sd_z223 h, fun _ h => nomatch h⟩⟩⟩⟩⟩⟩⟩⟩⟩⟩⟩⟩⟩⟩⟩⟩
theorem sd_zl14 : ∀ m ∈ [224, 225, 226, 227, 228, 229, 230, 231, 232, 233, 234, 235, 236, 237, 238, 239], ∀ pc, sd_sz m ≤ pc → ev_code m pc = none := List.forall_mem_cons.mpr ⟨fun pc h => sd_z224 h, List.forall_mem_cons.mpr ⟨fun pc h => sd_z225 h, List.forall_mem_cons.mpr ⟨fun pc h => sd_z226 h, List.forall_mem_cons.mpr ⟨fun pc h => sd_z227 h, List.forall_mem_cons.mpr ⟨fun pc h => sd_z228 h, List.forall_mem_cons.mpr ⟨fun pc h => sd_z229 h, List.forall_mem_cons.mpr ⟨fun pc h => sd_z230 h, List.forall_mem_cons.mpr ⟨fun pc h => sd_z231 h, List.forall_mem_cons.mpr ⟨fun pc h => sd_z232 h, List.forall_mem_cons.mpr ⟨fun pc h => sd_z233 h, List.forall_mem_cons.mpr ⟨fun pc h => sd_z234 h, List.forall_mem_cons.mpr ⟨fun pc h => sd_z235 h, List.forall_mem_cons.mpr ⟨fun pc h => sd_z236 h, List.forall_mem_cons.mpr ⟨fun pc h => sd_z237 h, List.forall_mem_cons.mpr ⟨fun pc h => sd_z238 h, List.forall_mem_cons.mpr ⟨fun pc h => sd_z239 h, fun _ h => nomatch h⟩⟩⟩⟩⟩⟩⟩⟩⟩⟩⟩⟩⟩⟩⟩⟩
theorem sd_zl15 : ∀ m ∈ [240, 241, 242, 243], ∀ pc, sd_sz m ≤ pc → ev_code m pc = none := List.forall_mem_cons.mpr ⟨fun pc h => sd_z240 h, List.forall_mem_cons.mpr ⟨fun pc h => sd_z241 h, List.forall_mem_cons.mpr ⟨fun pc h => sd_z242 h, List.forall_mem_cons.mpr ⟨fun pc h => sd_z243 h, fun _ h => nomatch h⟩⟩⟩⟩
def sd_ms : List Nat := [0, 1, 2, 3, 4, 5, 6, 7, 8, 9, 10, 11, 12, 13, 14, 15] ++ [16, 17, 18, 19, 20, 21, 22, 23, 24, 25, 26, 27, 28, 29, 30, 31] ++ [32, 33, 34, 35, 36, 37, 38, 39, 40, 41, 42, 43, 44, 45, 46, 47] ++ [48, 49, 50, 51, 52, 53, 54, 55, 56, 57, 58, 59, 60, 61, 62, 63] ++ [64, 65, 66, 67, 68, 69, 70, 71, 72, 73, 74, 75, 76, 77, 78, 79] ++ [80, 81, 82, 83, 84, 85, 86, 87, 88, 89, 90, 91, 92, 93, 94, 95] ++ [96, 97, 98, 99, 100, 101, 102, 103, 104, 105, 106, 107, 108, 109, 110, 111] ++ [112, 113, 114, 115, 116, 117, 118, 119, 120, 121, 122, 123, 124, 125, 126, 127] ++ [128, 129, 130, 131, 132, 133, 134, 135, 136, 137, 138, 139, 140, 141, 142, 143] ++ [144, 145, 146, 147, 148, 149, 150, 151, 152, 153, 154, 155, 156, 157, 158, 159] ++ [160, 161, 162, 163, 164, 165, 166, 167, 168, 169, 170, 171, 172, 173, 174, 175] ++ [176, 177, 178, 179, 180, 181, 182, 183, 184, 185, 186, 187, 188, 189, 190, 191] ++ [192, 193, 194, 195, 196, 197, 198, 199, 200, 201, 202, 203, 204, 205, 206, 207] ++ [208, 209, 210, 211, 212, 213, 214, 215, 216, 217, 218, 219, 220, 221, 222, 223] ++ [224, 225, 226, 227, 228, 229, 230, 231, 232, 233, 234, 235, 236, 237, 238, 239] ++ [240, 241, 242, 243]
theorem sd_ms_in : ∀ m, m < 244 → m ∈ sd_ms := by decide +kernel
theorem sd_zz : ∀ m ∈ sd_ms, ∀ pc, sd_sz m ≤ pc → ev_code m pc = none := (List.forall_mem_append.mpr ⟨(List.forall_mem_append.mpr ⟨(List.forall_mem_append.mpr ⟨(List.forall_mem_append.mpr ⟨(List.forall_mem_append.mpr ⟨(List.forall_mem_append.mpr ⟨(List.forall_mem_append.mpr ⟨(List.forall_mem_append.mpr ⟨(List.forall_mem_append.mpr ⟨(List.forall_mem_append.mpr ⟨(List.forall_mem_append.mpr ⟨(List.forall_mem_append.mpr ⟨(List.forall_mem_append.mpr ⟨(List.forall_mem_append.mpr ⟨(List.forall_mem_append.mpr ⟨sd_zl0, sd_zl1⟩), sd_zl2⟩), sd_zl3⟩), sd_zl4⟩), sd_zl5⟩), sd_zl6⟩), sd_zl7⟩), sd_zl8⟩), sd_zl9⟩), sd_zl10⟩), sd_zl11⟩), sd_zl12⟩), sd_zl13⟩), sd_zl14⟩), sd_zl15⟩)
theorem sd_zn {m pc : Nat} (hm : m < 244) (h : sd_sz m ≤ pc) : ev_code m pc = none := sd_zz m (sd_ms_in m hm) pc h
/-! SOUNDNESS, 8: calls -/
def sd_wd (a : Nat) : Cond := match sd_hh a with
  | [] => .code (sd_y a) (sd_cc a) (ev_ml a) (sd_ret a)
  | q :: r => .codeWith (sd_y a) (sd_cc a) (ev_ml a) (sd_ret a) (q :: r)
def sd_ws (a : Nat) : List Cond := sd_wd a :: sd_gw
def sd_rm (a : Nat) : Room := { frames := ev_fr a, locals := ev_lr a, cells := ev_mc a, slots := ev_ms a }
def sd_Qc (g : sd_G) (res : ev_O) (μ1 : ev_M) : Array Value → State → Outcome → State → Prop := fun _ st oc t =>
  (match res with
   | .inl none => oc = .returned none
   | .inl (some x) => ∃ w, oc = .returned (some w) ∧ sd_v g μ1.1 x w
   | .inr _ => False) ∧ sd_R g μ1 t.heap ∧ va_F (sd_A g) st t
def sd_XC (g : sd_G) (res : ev_O) (μ1 : ev_M) : String → State → State → Prop := fun E st t => (∃ e, res = .inr e ∧ E = sd_xn e ∧ e < 3) ∧ sd_R g μ1 t.heap ∧ va_F (sd_A g) st t
def sd_Pc (g : sd_G) (μ : ev_M) (vs : List Value) : Array Value → State → Prop := va_Pc vs (fun U => sd_X g U U.heap ∧ sd_R g μ U.heap ∧ g.1 ≤ U.heap.size)
def sd_M (l : Launch) (g : sd_G) (a : Nat) (μ : ev_M) (res : ev_O) (μ1 : ev_M) (vs : List Value) : Prop := vx_Met l (sd_y a) (sd_ws a) (sd_rm a) (sd_Pc g μ vs) (sd_Qc g res μ1) (sd_XC g res μ1) (ev_mc a) (ev_ms a) (sd_A g)
def sd_P (l : Launch) (g : sd_G) (call : ev_F → ev_M → ev_T) : Prop := ∀ (a : Nat) (as : List ev_V) (μ : ev_M) (res : ev_O) (μ1 : ev_M) (vs : List Value), 1 < a → a < 243 → as.length ≤ ev_ml a → ev_pl as = true → call (a, 0, as, [], 0, 0) μ = some (res, μ1) → sd_s g μ.1 as vs → μ.1 ≤ μ1.1 ∧ sd_M l g a μ res μ1 vs
theorem sd_wd_nil {a : Nat} (h : sd_hh a = []) : sd_wd a = .code (sd_y a) (sd_cc a) (ev_ml a) (sd_ret a) := by
  unfold sd_wd
  rw [h]
theorem sd_wd_con {a : Nat} (h : sd_hh a ≠ []) : sd_wd a = .codeWith (sd_y a) (sd_cc a) (ev_ml a) (sd_ret a) (sd_hh a) := by
  unfold sd_wd
  cases e : sd_hh a with
  | nil => exact absurd e h
  | cons q r => rfl
theorem sd_tc1 {w : Cond} (h : w ∈ tables_1_1) : w ∈ tables_1 := (List.mem_append.mpr (Or.inl h))
theorem sd_tc2 {w : Cond} (h : w ∈ tables_1_2) : w ∈ tables_1 := (List.mem_append.mpr (Or.inr (List.mem_append.mpr (Or.inl h))))
theorem sd_tc3 {w : Cond} (h : w ∈ tables_1_3) : w ∈ tables_1 := (List.mem_append.mpr (Or.inr (List.mem_append.mpr (Or.inr (List.mem_append.mpr (Or.inl h))))))
theorem sd_tc4 {w : Cond} (h : w ∈ tables_1_4) : w ∈ tables_1 := (List.mem_append.mpr (Or.inr (List.mem_append.mpr (Or.inr (List.mem_append.mpr (Or.inr (List.mem_append.mpr (Or.inl h))))))))
theorem sd_tc5 {w : Cond} (h : w ∈ tables_1_5) : w ∈ tables_1 := (List.mem_append.mpr (Or.inr (List.mem_append.mpr (Or.inr (List.mem_append.mpr (Or.inr (List.mem_append.mpr (Or.inr (List.mem_append.mpr (Or.inl h))))))))))
theorem sd_tc6 {w : Cond} (h : w ∈ tables_1_6) : w ∈ tables_1 := (List.mem_append.mpr (Or.inr (List.mem_append.mpr (Or.inr (List.mem_append.mpr (Or.inr (List.mem_append.mpr (Or.inr (List.mem_append.mpr (Or.inr (List.mem_append.mpr (Or.inl h))))))))))))
theorem sd_tc7 {w : Cond} (h : w ∈ tables_1_7) : w ∈ tables_1 := (List.mem_append.mpr (Or.inr (List.mem_append.mpr (Or.inr (List.mem_append.mpr (Or.inr (List.mem_append.mpr (Or.inr (List.mem_append.mpr (Or.inr (List.mem_append.mpr (Or.inr h))))))))))))
theorem sd_q2 : sd_wd 2 ∈ tables_1 := sd_tc4 (List.mem_of_getElem? (i := 31) rfl)
theorem sd_q3 : sd_wd 3 ∈ tables_1 := sd_tc4 (List.mem_of_getElem? (i := 41) rfl)
theorem sd_q4 : sd_wd 4 ∈ tables_1 := sd_tc4 (List.mem_of_getElem? (i := 35) rfl)
theorem sd_q5 : sd_wd 5 ∈ tables_1 := sd_tc4 (List.mem_of_getElem? (i := 45) rfl)
theorem sd_q6 : sd_wd 6 ∈ tables_1 := sd_tc4 (List.mem_of_getElem? (i := 51) rfl)
theorem sd_q7 : sd_wd 7 ∈ tables_1 := sd_tc4 (List.mem_of_getElem? (i := 48) rfl)
theorem sd_q8 : sd_wd 8 ∈ tables_1 := sd_tc1 (List.mem_of_getElem? (i := 81) rfl)
theorem sd_q9 : sd_wd 9 ∈ tables_1 := sd_tc4 (List.mem_of_getElem? (i := 56) rfl)
theorem sd_q10 : sd_wd 10 ∈ tables_1 := sd_tc1 (List.mem_of_getElem? (i := 132) rfl)
theorem sd_q11 : sd_wd 11 ∈ tables_1 := sd_tc2 (List.mem_of_getElem? (i := 25) rfl)
theorem sd_q12 : sd_wd 12 ∈ tables_1 := sd_tc3 (List.mem_of_getElem? (i := 14) rfl)
theorem sd_q13 : sd_wd 13 ∈ tables_1 := sd_tc2 (List.mem_of_getElem? (i := 149) rfl)
theorem sd_q14 : sd_wd 14 ∈ tables_1 := sd_tc4 (List.mem_of_getElem? (i := 142) rfl)
theorem sd_q15 : sd_wd 15 ∈ tables_1 := sd_tc3 (List.mem_of_getElem? (i := 151) rfl)
theorem sd_q16 : sd_wd 16 ∈ tables_1 := sd_tc3 (List.mem_of_getElem? (i := 161) rfl)
theorem sd_q17 : sd_wd 17 ∈ tables_1 := sd_tc1 (List.mem_of_getElem? (i := 44) rfl)
theorem sd_q18 : sd_wd 18 ∈ tables_1 := sd_tc2 (List.mem_of_getElem? (i := 215) rfl)
theorem sd_q19 : sd_wd 19 ∈ tables_1 := sd_tc4 (List.mem_of_getElem? (i := 10) rfl)
theorem sd_q20 : sd_wd 20 ∈ tables_1 := sd_tc4 (List.mem_of_getElem? (i := 19) rfl)
theorem sd_q21 : sd_wd 21 ∈ tables_1 := sd_tc4 (List.mem_of_getElem? (i := 27) rfl)
theorem sd_q22 : sd_wd 22 ∈ tables_1 := sd_tc4 (List.mem_of_getElem? (i := 87) rfl)
theorem sd_q23 : sd_wd 23 ∈ tables_1 := sd_tc4 (List.mem_of_getElem? (i := 22) rfl)
theorem sd_q24 : sd_wd 24 ∈ tables_1 := sd_tc1 (List.mem_of_getElem? (i := 73) rfl)
theorem sd_q25 : sd_wd 25 ∈ tables_1 := sd_tc1 (List.mem_of_getElem? (i := 78) rfl)
theorem sd_q26 : sd_wd 26 ∈ tables_1 := sd_tc4 (List.mem_of_getElem? (i := 137) rfl)
theorem sd_q27 : sd_wd 27 ∈ tables_1 := sd_tc4 (List.mem_of_getElem? (i := 189) rfl)
theorem sd_q28 : sd_wd 28 ∈ tables_1 := sd_tc4 (List.mem_of_getElem? (i := 224) rfl)
theorem sd_q29 : sd_wd 29 ∈ tables_1 := sd_tc2 (List.mem_of_getElem? (i := 234) rfl)
theorem sd_q30 : sd_wd 30 ∈ tables_1 := sd_tc1 (List.mem_of_getElem? (i := 38) rfl)
theorem sd_q31 : sd_wd 31 ∈ tables_1 := sd_tc4 (List.mem_of_getElem? (i := 0) rfl)
theorem sd_q32 : sd_wd 32 ∈ tables_1 := sd_tc4 (List.mem_of_getElem? (i := 4) rfl)
theorem sd_q33 : sd_wd 33 ∈ tables_1 := sd_tc4 (List.mem_of_getElem? (i := 79) rfl)
theorem sd_q34 : sd_wd 34 ∈ tables_1 := sd_tc4 (List.mem_of_getElem? (i := 15) rfl)
theorem sd_q35 : sd_wd 35 ∈ tables_1 := sd_tc4 (List.mem_of_getElem? (i := 95) rfl)
theorem sd_q36 : sd_wd 36 ∈ tables_1 := sd_tc4 (List.mem_of_getElem? (i := 100) rfl)
theorem sd_q37 : sd_wd 37 ∈ tables_1 := sd_tc4 (List.mem_of_getElem? (i := 106) rfl)
theorem sd_q38 : sd_wd 38 ∈ tables_1 := sd_tc4 (List.mem_of_getElem? (i := 115) rfl)
theorem sd_q39 : sd_wd 39 ∈ tables_1 := sd_tc4 (List.mem_of_getElem? (i := 129) rfl)
theorem sd_q40 : sd_wd 40 ∈ tables_1 := sd_tc4 (List.mem_of_getElem? (i := 83) rfl)
theorem sd_q41 : sd_wd 41 ∈ tables_1 := sd_tc4 (List.mem_of_getElem? (i := 91) rfl)
theorem sd_q42 : sd_wd 42 ∈ tables_1 := sd_tc4 (List.mem_of_getElem? (i := 118) rfl)
theorem sd_q43 : sd_wd 43 ∈ tables_1 := sd_tc1 (List.mem_of_getElem? (i := 207) rfl)
theorem sd_q44 : sd_wd 44 ∈ tables_1 := sd_tc2 (List.mem_of_getElem? (i := 35) rfl)
theorem sd_q45 : sd_wd 45 ∈ tables_1 := sd_tc3 (List.mem_of_getElem? (i := 24) rfl)
theorem sd_q46 : sd_wd 46 ∈ tables_1 := sd_tc3 (List.mem_of_getElem? (i := 45) rfl)
theorem sd_q47 : sd_wd 47 ∈ tables_1 := sd_tc4 (List.mem_of_getElem? (i := 110) rfl)
theorem sd_q48 : sd_wd 48 ∈ tables_1 := sd_tc3 (List.mem_of_getElem? (i := 41) rfl)
theorem sd_q49 : sd_wd 49 ∈ tables_1 := sd_tc4 (List.mem_of_getElem? (i := 157) rfl)
theorem sd_q50 : sd_wd 50 ∈ tables_1 := sd_tc4 (List.mem_of_getElem? (i := 209) rfl)
theorem sd_q51 : sd_wd 51 ∈ tables_1 := sd_tc3 (List.mem_of_getElem? (i := 78) rfl)
theorem sd_q52 : sd_wd 52 ∈ tables_1 := sd_tc1 (List.mem_of_getElem? (i := 177) rfl)
theorem sd_q53 : sd_wd 53 ∈ tables_1 := sd_tc2 (List.mem_of_getElem? (i := 30) rfl)
theorem sd_q54 : sd_wd 54 ∈ tables_1 := sd_tc3 (List.mem_of_getElem? (i := 19) rfl)
theorem sd_q55 : sd_wd 55 ∈ tables_1 := sd_tc3 (List.mem_of_getElem? (i := 114) rfl)
theorem sd_q56 : sd_wd 56 ∈ tables_1 := sd_tc3 (List.mem_of_getElem? (i := 127) rfl)
theorem sd_q57 : sd_wd 57 ∈ tables_1 := sd_tc2 (List.mem_of_getElem? (i := 169) rfl)
theorem sd_q58 : sd_wd 58 ∈ tables_1 := sd_tc4 (List.mem_of_getElem? (i := 146) rfl)
theorem sd_q59 : sd_wd 59 ∈ tables_1 := sd_tc5 (List.mem_of_getElem? (i := 133) rfl)
theorem sd_q60 : sd_wd 60 ∈ tables_1 := sd_tc5 (List.mem_of_getElem? (i := 145) rfl)
theorem sd_q61 : sd_wd 61 ∈ tables_1 := sd_tc1 (List.mem_of_getElem? (i := 126) rfl)
theorem sd_q62 : sd_wd 62 ∈ tables_1 := sd_tc2 (List.mem_of_getElem? (i := 9) rfl)
theorem sd_q63 : sd_wd 63 ∈ tables_1 := sd_tc3 (List.mem_of_getElem? (i := 10) rfl)
theorem sd_q64 : sd_wd 64 ∈ tables_1 := sd_tc2 (List.mem_of_getElem? (i := 239) rfl)
theorem sd_q65 : sd_wd 65 ∈ tables_1 := sd_tc3 (List.mem_of_getElem? (i := 63) rfl)
theorem sd_q66 : sd_wd 66 ∈ tables_1 := sd_tc3 (List.mem_of_getElem? (i := 68) rfl)
theorem sd_q67 : sd_wd 67 ∈ tables_1 := sd_tc3 (List.mem_of_getElem? (i := 109) rfl)
theorem sd_q68 : sd_wd 68 ∈ tables_1 := sd_tc3 (List.mem_of_getElem? (i := 118) rfl)
theorem sd_q69 : sd_wd 69 ∈ tables_1 := sd_tc2 (List.mem_of_getElem? (i := 114) rfl)
theorem sd_q70 : sd_wd 70 ∈ tables_1 := sd_tc5 (List.mem_of_getElem? (i := 29) rfl)
theorem sd_q71 : sd_wd 71 ∈ tables_1 := sd_tc3 (List.mem_of_getElem? (i := 33) rfl)
theorem sd_q72 : sd_wd 72 ∈ tables_1 := sd_tc3 (List.mem_of_getElem? (i := 37) rfl)
theorem sd_q73 : sd_wd 73 ∈ tables_1 := sd_tc3 (List.mem_of_getElem? (i := 49) rfl)
theorem sd_q74 : sd_wd 74 ∈ tables_1 := sd_tc3 (List.mem_of_getElem? (i := 53) rfl)
theorem sd_q75 : sd_wd 75 ∈ tables_1 := sd_tc3 (List.mem_of_getElem? (i := 58) rfl)
theorem sd_q76 : sd_wd 76 ∈ tables_1 := sd_tc3 (List.mem_of_getElem? (i := 72) rfl)
theorem sd_q77 : sd_wd 77 ∈ tables_1 := sd_tc3 (List.mem_of_getElem? (i := 82) rfl)
theorem sd_q78 : sd_wd 78 ∈ tables_1 := sd_tc3 (List.mem_of_getElem? (i := 97) rfl)
theorem sd_q79 : sd_wd 79 ∈ tables_1 := sd_tc3 (List.mem_of_getElem? (i := 90) rfl)
theorem sd_q80 : sd_wd 80 ∈ tables_1 := sd_tc3 (List.mem_of_getElem? (i := 87) rfl)
theorem sd_q81 : sd_wd 81 ∈ tables_1 := sd_tc3 (List.mem_of_getElem? (i := 94) rfl)
theorem sd_q82 : sd_wd 82 ∈ tables_1 := sd_tc3 (List.mem_of_getElem? (i := 101) rfl)
theorem sd_q83 : sd_wd 83 ∈ tables_1 := sd_tc3 (List.mem_of_getElem? (i := 105) rfl)
theorem sd_q84 : sd_wd 84 ∈ tables_1 := sd_tc3 (List.mem_of_getElem? (i := 123) rfl)
theorem sd_q85 : sd_wd 85 ∈ tables_1 := sd_tc3 (List.mem_of_getElem? (i := 131) rfl)
theorem sd_q86 : sd_wd 86 ∈ tables_1 := sd_tc1 (List.mem_of_getElem? (i := 30) rfl)
theorem sd_q87 : sd_wd 87 ∈ tables_1 := sd_tc2 (List.mem_of_getElem? (i := 211) rfl)
theorem sd_q88 : sd_wd 88 ∈ tables_1 := sd_tc3 (List.mem_of_getElem? (i := 169) rfl)
theorem sd_q89 : sd_wd 89 ∈ tables_1 := sd_tc2 (List.mem_of_getElem? (i := 219) rfl)
theorem sd_q90 : sd_wd 90 ∈ tables_1 := sd_tc4 (List.mem_of_getElem? (i := 153) rfl)
theorem sd_q91 : sd_wd 91 ∈ tables_1 := sd_tc4 (List.mem_of_getElem? (i := 173) rfl)
theorem sd_q92 : sd_wd 92 ∈ tables_1 := sd_tc4 (List.mem_of_getElem? (i := 181) rfl)
theorem sd_q93 : sd_wd 93 ∈ tables_1 := sd_tc4 (List.mem_of_getElem? (i := 216) rfl)
theorem sd_q94 : sd_wd 94 ∈ tables_1 := sd_tc4 (List.mem_of_getElem? (i := 232) rfl)
theorem sd_q95 : sd_wd 95 ∈ tables_1 := sd_tc5 (List.mem_of_getElem? (i := 5) rfl)
theorem sd_q96 : sd_wd 96 ∈ tables_1 := sd_tc2 (List.mem_of_getElem? (i := 223) rfl)
theorem sd_q97 : sd_wd 97 ∈ tables_1 := sd_tc5 (List.mem_of_getElem? (i := 13) rfl)
theorem sd_q98 : sd_wd 98 ∈ tables_1 := sd_tc3 (List.mem_of_getElem? (i := 6) rfl)
theorem sd_q99 : sd_wd 99 ∈ tables_1 := sd_tc5 (List.mem_of_getElem? (i := 20) rfl)
theorem sd_q100 : sd_wd 100 ∈ tables_1 := sd_tc5 (List.mem_of_getElem? (i := 37) rfl)
theorem sd_q101 : sd_wd 101 ∈ tables_1 := sd_tc5 (List.mem_of_getElem? (i := 46) rfl)
theorem sd_q102 : sd_wd 102 ∈ tables_1 := sd_tc5 (List.mem_of_getElem? (i := 53) rfl)
theorem sd_q103 : sd_wd 103 ∈ tables_1 := sd_tc3 (List.mem_of_getElem? (i := 135) rfl)
theorem sd_q104 : sd_wd 104 ∈ tables_1 := sd_tc3 (List.mem_of_getElem? (i := 139) rfl)
theorem sd_q105 : sd_wd 105 ∈ tables_1 := sd_tc3 (List.mem_of_getElem? (i := 143) rfl)
theorem sd_q106 : sd_wd 106 ∈ tables_1 := sd_tc5 (List.mem_of_getElem? (i := 64) rfl)
theorem sd_q107 : sd_wd 107 ∈ tables_1 := sd_tc5 (List.mem_of_getElem? (i := 72) rfl)
theorem sd_q108 : sd_wd 108 ∈ tables_1 := sd_tc5 (List.mem_of_getElem? (i := 95) rfl)
theorem sd_q109 : sd_wd 109 ∈ tables_1 := sd_tc5 (List.mem_of_getElem? (i := 105) rfl)
theorem sd_q110 : sd_wd 110 ∈ tables_1 := sd_tc5 (List.mem_of_getElem? (i := 116) rfl)
theorem sd_q111 : sd_wd 111 ∈ tables_1 := sd_tc3 (List.mem_of_getElem? (i := 147) rfl)
theorem sd_q112 : sd_wd 112 ∈ tables_1 := sd_tc3 (List.mem_of_getElem? (i := 157) rfl)
theorem sd_q113 : sd_wd 113 ∈ tables_1 := sd_tc5 (List.mem_of_getElem? (i := 124) rfl)
theorem sd_q114 : sd_wd 114 ∈ tables_1 := sd_tc5 (List.mem_of_getElem? (i := 141) rfl)
theorem sd_q115 : sd_wd 115 ∈ tables_1 := sd_tc4 (List.mem_of_getElem? (i := 185) rfl)
theorem sd_q116 : sd_wd 116 ∈ tables_1 := sd_tc4 (List.mem_of_getElem? (i := 220) rfl)
theorem sd_q117 : sd_wd 117 ∈ tables_1 := sd_tc4 (List.mem_of_getElem? (i := 236) rfl)
theorem sd_q118 : sd_wd 118 ∈ tables_1 := sd_tc5 (List.mem_of_getElem? (i := 128) rfl)
theorem sd_q119 : sd_wd 119 ∈ tables_1 := sd_tc5 (List.mem_of_getElem? (i := 24) rfl)
theorem sd_q120 : sd_wd 120 ∈ tables_1 := sd_tc4 (List.mem_of_getElem? (i := 161) rfl)
theorem sd_q121 : sd_wd 121 ∈ tables_1 := sd_tc4 (List.mem_of_getElem? (i := 165) rfl)
theorem sd_q122 : sd_wd 122 ∈ tables_1 := sd_tc3 (List.mem_of_getElem? (i := 29) rfl)
theorem sd_q123 : sd_wd 123 ∈ tables_1 := sd_tc5 (List.mem_of_getElem? (i := 57) rfl)
theorem sd_q124 : sd_wd 124 ∈ tables_1 := sd_tc2 (List.mem_of_getElem? (i := 230) rfl)
theorem sd_q125 : sd_wd 125 ∈ tables_1 := sd_tc2 (List.mem_of_getElem? (i := 227) rfl)
theorem sd_q126 : sd_wd 126 ∈ tables_1 := sd_tc2 (List.mem_of_getElem? (i := 14) rfl)
theorem sd_q127 : sd_wd 127 ∈ tables_1 := sd_tc5 (List.mem_of_getElem? (i := 151) rfl)
theorem sd_q128 : sd_wd 128 ∈ tables_1 := sd_tc6 (List.mem_of_getElem? (i := 27) rfl)
theorem sd_q129 : sd_wd 129 ∈ tables_1 := sd_tc6 (List.mem_of_getElem? (i := 42) rfl)
theorem sd_q130 : sd_wd 130 ∈ tables_1 := sd_tc6 (List.mem_of_getElem? (i := 46) rfl)
theorem sd_q131 : sd_wd 131 ∈ tables_1 := sd_tc6 (List.mem_of_getElem? (i := 118) rfl)
theorem sd_q132 : sd_wd 132 ∈ tables_1 := sd_tc6 (List.mem_of_getElem? (i := 121) rfl)
theorem sd_q133 : sd_wd 133 ∈ tables_1 := sd_tc5 (List.mem_of_getElem? (i := 159) rfl)
theorem sd_q134 : sd_wd 134 ∈ tables_1 := sd_tc6 (List.mem_of_getElem? (i := 31) rfl)
theorem sd_q135 : sd_wd 135 ∈ tables_1 := sd_tc6 (List.mem_of_getElem? (i := 35) rfl)
theorem sd_q136 : sd_wd 136 ∈ tables_1 := sd_tc6 (List.mem_of_getElem? (i := 54) rfl)
theorem sd_q137 : sd_wd 137 ∈ tables_1 := sd_tc6 (List.mem_of_getElem? (i := 50) rfl)
theorem sd_q138 : sd_wd 138 ∈ tables_1 := sd_tc6 (List.mem_of_getElem? (i := 59) rfl)
theorem sd_q139 : sd_wd 139 ∈ tables_1 := sd_tc6 (List.mem_of_getElem? (i := 69) rfl)
theorem sd_q140 : sd_wd 140 ∈ tables_1 := sd_tc6 (List.mem_of_getElem? (i := 65) rfl)
theorem sd_q141 : sd_wd 141 ∈ tables_1 := sd_tc6 (List.mem_of_getElem? (i := 77) rfl)
theorem sd_q142 : sd_wd 142 ∈ tables_1 := sd_tc6 (List.mem_of_getElem? (i := 73) rfl)
theorem sd_q143 : sd_wd 143 ∈ tables_1 := sd_tc6 (List.mem_of_getElem? (i := 81) rfl)
theorem sd_q144 : sd_wd 144 ∈ tables_1 := sd_tc6 (List.mem_of_getElem? (i := 100) rfl)
theorem sd_q145 : sd_wd 145 ∈ tables_1 := sd_tc6 (List.mem_of_getElem? (i := 90) rfl)
theorem sd_q146 : sd_wd 146 ∈ tables_1 := sd_tc6 (List.mem_of_getElem? (i := 95) rfl)
theorem sd_q147 : sd_wd 147 ∈ tables_1 := sd_tc6 (List.mem_of_getElem? (i := 104) rfl)
theorem sd_q148 : sd_wd 148 ∈ tables_1 := sd_tc6 (List.mem_of_getElem? (i := 115) rfl)
theorem sd_q149 : sd_wd 149 ∈ tables_1 := sd_tc6 (List.mem_of_getElem? (i := 85) rfl)
theorem sd_q150 : sd_wd 150 ∈ tables_1 := sd_tc5 (List.mem_of_getElem? (i := 156) rfl)
theorem sd_q151 : sd_wd 151 ∈ tables_1 := sd_tc6 (List.mem_of_getElem? (i := 39) rfl)
theorem sd_q152 : sd_wd 152 ∈ tables_1 := sd_tc5 (List.mem_of_getElem? (i := 163) rfl)
theorem sd_q153 : sd_wd 153 ∈ tables_1 := sd_tc6 (List.mem_of_getElem? (i := 125) rfl)
theorem sd_q154 : sd_wd 154 ∈ tables_1 := sd_tc6 (List.mem_of_getElem? (i := 153) rfl)
theorem sd_q155 : sd_wd 155 ∈ tables_1 := sd_tc5 (List.mem_of_getElem? (i := 167) rfl)
theorem sd_q156 : sd_wd 156 ∈ tables_1 := sd_tc7 (List.mem_of_getElem? (i := 13) rfl)
theorem sd_q157 : sd_wd 157 ∈ tables_1 := sd_tc6 (List.mem_of_getElem? (i := 189) rfl)
theorem sd_q158 : sd_wd 158 ∈ tables_1 := sd_tc7 (List.mem_of_getElem? (i := 76) rfl)
theorem sd_q159 : sd_wd 159 ∈ tables_1 := sd_tc7 (List.mem_of_getElem? (i := 64) rfl)
theorem sd_q160 : sd_wd 160 ∈ tables_1 := sd_tc6 (List.mem_of_getElem? (i := 137) rfl)
theorem sd_q161 : sd_wd 161 ∈ tables_1 := sd_tc5 (List.mem_of_getElem? (i := 175) rfl)
theorem sd_q162 : sd_wd 162 ∈ tables_1 := sd_tc5 (List.mem_of_getElem? (i := 171) rfl)
theorem sd_q163 : sd_wd 163 ∈ tables_1 := sd_tc7 (List.mem_of_getElem? (i := 5) rfl)
theorem sd_q164 : sd_wd 164 ∈ tables_1 := sd_tc6 (List.mem_of_getElem? (i := 213) rfl)
theorem sd_q165 : sd_wd 165 ∈ tables_1 := sd_tc6 (List.mem_of_getElem? (i := 149) rfl)
theorem sd_q166 : sd_wd 166 ∈ tables_1 := sd_tc6 (List.mem_of_getElem? (i := 193) rfl)
theorem sd_q167 : sd_wd 167 ∈ tables_1 := sd_tc6 (List.mem_of_getElem? (i := 197) rfl)
theorem sd_q168 : sd_wd 168 ∈ tables_1 := sd_tc6 (List.mem_of_getElem? (i := 222) rfl)
theorem sd_q169 : sd_wd 169 ∈ tables_1 := sd_tc7 (List.mem_of_getElem? (i := 1) rfl)
theorem sd_q170 : sd_wd 170 ∈ tables_1 := sd_tc7 (List.mem_of_getElem? (i := 9) rfl)
theorem sd_q171 : sd_wd 171 ∈ tables_1 := sd_tc7 (List.mem_of_getElem? (i := 25) rfl)
theorem sd_q172 : sd_wd 172 ∈ tables_1 := sd_tc7 (List.mem_of_getElem? (i := 21) rfl)
theorem sd_q173 : sd_wd 173 ∈ tables_1 := sd_tc7 (List.mem_of_getElem? (i := 17) rfl)
theorem sd_q174 : sd_wd 174 ∈ tables_1 := sd_tc7 (List.mem_of_getElem? (i := 29) rfl)
theorem sd_q175 : sd_wd 175 ∈ tables_1 := sd_tc7 (List.mem_of_getElem? (i := 36) rfl)
theorem sd_q176 : sd_wd 176 ∈ tables_1 := sd_tc7 (List.mem_of_getElem? (i := 40) rfl)
theorem sd_q177 : sd_wd 177 ∈ tables_1 := sd_tc7 (List.mem_of_getElem? (i := 33) rfl)
theorem sd_q178 : sd_wd 178 ∈ tables_1 := sd_tc6 (List.mem_of_getElem? (i := 237) rfl)
theorem sd_q179 : sd_wd 179 ∈ tables_1 := sd_tc7 (List.mem_of_getElem? (i := 60) rfl)
theorem sd_q180 : sd_wd 180 ∈ tables_1 := sd_tc7 (List.mem_of_getElem? (i := 68) rfl)
theorem sd_q181 : sd_wd 181 ∈ tables_1 := sd_tc7 (List.mem_of_getElem? (i := 72) rfl)
theorem sd_q182 : sd_wd 182 ∈ tables_1 := sd_tc7 (List.mem_of_getElem? (i := 56) rfl)
theorem sd_q183 : sd_wd 183 ∈ tables_1 := sd_tc6 (List.mem_of_getElem? (i := 230) rfl)
theorem sd_q184 : sd_wd 184 ∈ tables_1 := sd_tc7 (List.mem_of_getElem? (i := 44) rfl)
theorem sd_q185 : sd_wd 185 ∈ tables_1 := sd_tc7 (List.mem_of_getElem? (i := 52) rfl)
theorem sd_q186 : sd_wd 186 ∈ tables_1 := sd_tc6 (List.mem_of_getElem? (i := 133) rfl)
theorem sd_q187 : sd_wd 187 ∈ tables_1 := sd_tc6 (List.mem_of_getElem? (i := 177) rfl)
theorem sd_q188 : sd_wd 188 ∈ tables_1 := sd_tc6 (List.mem_of_getElem? (i := 141) rfl)
theorem sd_q189 : sd_wd 189 ∈ tables_1 := sd_tc6 (List.mem_of_getElem? (i := 145) rfl)
theorem sd_q190 : sd_wd 190 ∈ tables_1 := sd_tc6 (List.mem_of_getElem? (i := 129) rfl)
theorem sd_q191 : sd_wd 191 ∈ tables_1 := sd_tc6 (List.mem_of_getElem? (i := 161) rfl)
theorem sd_q192 : sd_wd 192 ∈ tables_1 := sd_tc6 (List.mem_of_getElem? (i := 157) rfl)
theorem sd_q193 : sd_wd 193 ∈ tables_1 := sd_tc6 (List.mem_of_getElem? (i := 173) rfl)
theorem sd_q194 : sd_wd 194 ∈ tables_1 := sd_tc6 (List.mem_of_getElem? (i := 169) rfl)
theorem sd_q195 : sd_wd 195 ∈ tables_1 := sd_tc6 (List.mem_of_getElem? (i := 185) rfl)
theorem sd_q196 : sd_wd 196 ∈ tables_1 := sd_tc6 (List.mem_of_getElem? (i := 205) rfl)
theorem sd_q197 : sd_wd 197 ∈ tables_1 := sd_tc6 (List.mem_of_getElem? (i := 165) rfl)
theorem sd_q198 : sd_wd 198 ∈ tables_1 := sd_tc6 (List.mem_of_getElem? (i := 181) rfl)
theorem sd_q199 : sd_wd 199 ∈ tables_1 := sd_tc6 (List.mem_of_getElem? (i := 201) rfl)
theorem sd_q200 : sd_wd 200 ∈ tables_1 := sd_tc6 (List.mem_of_getElem? (i := 209) rfl)
theorem sd_q201 : sd_wd 201 ∈ tables_1 := sd_tc6 (List.mem_of_getElem? (i := 217) rfl)
theorem sd_q202 : sd_wd 202 ∈ tables_1 := sd_tc6 (List.mem_of_getElem? (i := 226) rfl)
theorem sd_q203 : sd_wd 203 ∈ tables_1 := sd_tc7 (List.mem_of_getElem? (i := 48) rfl)
theorem sd_q204 : sd_wd 204 ∈ tables_1 := sd_tc7 (List.mem_of_getElem? (i := 84) rfl)
theorem sd_q205 : sd_wd 205 ∈ tables_1 := sd_tc7 (List.mem_of_getElem? (i := 80) rfl)
theorem sd_q206 : sd_wd 206 ∈ tables_1 := sd_tc7 (List.mem_of_getElem? (i := 88) rfl)
theorem sd_q207 : sd_wd 207 ∈ tables_1 := sd_tc7 (List.mem_of_getElem? (i := 92) rfl)
theorem sd_q208 : sd_wd 208 ∈ tables_1 := sd_tc7 (List.mem_of_getElem? (i := 96) rfl)
theorem sd_q209 : sd_wd 209 ∈ tables_1 := sd_tc7 (List.mem_of_getElem? (i := 100) rfl)
theorem sd_q210 : sd_wd 210 ∈ tables_1 := sd_tc7 (List.mem_of_getElem? (i := 104) rfl)
theorem sd_q211 : sd_wd 211 ∈ tables_1 := sd_tc7 (List.mem_of_getElem? (i := 108) rfl)
theorem sd_q212 : sd_wd 212 ∈ tables_1 := sd_tc7 (List.mem_of_getElem? (i := 112) rfl)
theorem sd_q213 : sd_wd 213 ∈ tables_1 := sd_tc7 (List.mem_of_getElem? (i := 116) rfl)
theorem sd_q214 : sd_wd 214 ∈ tables_1 := sd_tc7 (List.mem_of_getElem? (i := 124) rfl)
theorem sd_q215 : sd_wd 215 ∈ tables_1 := sd_tc7 (List.mem_of_getElem? (i := 128) rfl)
theorem sd_q216 : sd_wd 216 ∈ tables_1 := sd_tc7 (List.mem_of_getElem? (i := 132) rfl)
theorem sd_q217 : sd_wd 217 ∈ tables_1 := sd_tc7 (List.mem_of_getElem? (i := 136) rfl)
theorem sd_q218 : sd_wd 218 ∈ tables_1 := sd_tc6 (List.mem_of_getElem? (i := 233) rfl)
theorem sd_q219 : sd_wd 219 ∈ tables_1 := sd_tc7 (List.mem_of_getElem? (i := 120) rfl)
theorem sd_q220 : sd_wd 220 ∈ tables_1 := sd_tc7 (List.mem_of_getElem? (i := 140) rfl)
theorem sd_q221 : sd_wd 221 ∈ tables_1 := sd_tc7 (List.mem_of_getElem? (i := 148) rfl)
theorem sd_q222 : sd_wd 222 ∈ tables_1 := sd_tc7 (List.mem_of_getElem? (i := 144) rfl)
theorem sd_q223 : sd_wd 223 ∈ tables_1 := sd_tc7 (List.mem_of_getElem? (i := 152) rfl)
theorem sd_q224 : sd_wd 224 ∈ tables_1 := sd_tc3 (List.mem_of_getElem? (i := 164) rfl)
theorem sd_q225 : sd_wd 225 ∈ tables_1 := sd_tc4 (List.mem_of_getElem? (i := 149) rfl)
theorem sd_q226 : sd_wd 226 ∈ tables_1 := sd_tc4 (List.mem_of_getElem? (i := 169) rfl)
theorem sd_q227 : sd_wd 227 ∈ tables_1 := sd_tc4 (List.mem_of_getElem? (i := 176) rfl)
theorem sd_q228 : sd_wd 228 ∈ tables_1 := sd_tc4 (List.mem_of_getElem? (i := 212) rfl)
theorem sd_q229 : sd_wd 229 ∈ tables_1 := sd_tc4 (List.mem_of_getElem? (i := 228) rfl)
theorem sd_q230 : sd_wd 230 ∈ tables_1 := sd_tc5 (List.mem_of_getElem? (i := 1) rfl)
theorem sd_q231 : sd_wd 231 ∈ tables_1 := sd_tc5 (List.mem_of_getElem? (i := 9) rfl)
theorem sd_q232 : sd_wd 232 ∈ tables_1 := sd_tc5 (List.mem_of_getElem? (i := 16) rfl)
theorem sd_q233 : sd_wd 233 ∈ tables_1 := sd_tc5 (List.mem_of_getElem? (i := 33) rfl)
theorem sd_q234 : sd_wd 234 ∈ tables_1 := sd_tc5 (List.mem_of_getElem? (i := 42) rfl)
theorem sd_q235 : sd_wd 235 ∈ tables_1 := sd_tc5 (List.mem_of_getElem? (i := 49) rfl)
theorem sd_q236 : sd_wd 236 ∈ tables_1 := sd_tc5 (List.mem_of_getElem? (i := 60) rfl)
theorem sd_q237 : sd_wd 237 ∈ tables_1 := sd_tc5 (List.mem_of_getElem? (i := 67) rfl)
theorem sd_q238 : sd_wd 238 ∈ tables_1 := sd_tc5 (List.mem_of_getElem? (i := 91) rfl)
theorem sd_q239 : sd_wd 239 ∈ tables_1 := sd_tc5 (List.mem_of_getElem? (i := 101) rfl)
theorem sd_q240 : sd_wd 240 ∈ tables_1 := sd_tc5 (List.mem_of_getElem? (i := 112) rfl)
theorem sd_q241 : sd_wd 241 ∈ tables_1 := sd_tc5 (List.mem_of_getElem? (i := 120) rfl)
theorem sd_q242 : sd_wd 242 ∈ tables_1 := sd_tc5 (List.mem_of_getElem? (i := 137) rfl)
theorem sd_ql0 : ∀ m ∈ [2, 3, 4, 5, 6, 7, 8, 9, 10, 11, 12, 13, 14, 15, 16, 17], sd_wd m ∈ tables_1 := List.forall_mem_cons.mpr ⟨sd_q2, List.forall_mem_cons.mpr ⟨sd_q3, List.forall_mem_cons.mpr ⟨sd_q4, List.forall_mem_cons.mpr ⟨sd_q5, List.forall_mem_cons.mpr ⟨sd_q6, List.forall_mem_cons.mpr ⟨sd_q7, List.forall_mem_cons.mpr ⟨sd_q8, List.forall_mem_cons.mpr ⟨sd_q9, List.forall_mem_cons.mpr ⟨sd_q10, List.forall_mem_cons.mpr ⟨sd_q11, List.forall_mem_cons.mpr ⟨sd_q12, List.forall_mem_cons.mpr ⟨sd_q13, List.forall_mem_cons.mpr ⟨sd_q14, List.forall_mem_cons.mpr ⟨sd_q15, List.forall_mem_cons.mpr ⟨sd_q16, List.forall_mem_cons.mpr ⟨sd_q17, fun _ h => nomatch h⟩⟩⟩⟩⟩⟩⟩⟩⟩⟩⟩⟩⟩⟩⟩⟩
theorem sd_ql1 : ∀ m ∈ [18, 19, 20, 21, 22, 23, 24, 25, 26, 27, 28, 29, 30, 31, 32, 33], sd_wd m ∈ tables_1 := List.forall_mem_cons.mpr ⟨sd_q18, List.forall_mem_cons.mpr ⟨sd_q19, List.forall_mem_cons.mpr ⟨sd_q20, List.forall_mem_cons.mpr ⟨sd_q21, List.forall_mem_cons.mpr ⟨sd_q22, List.forall_mem_cons.mpr ⟨sd_q23, List.forall_mem_cons.mpr ⟨sd_q24, List.forall_mem_cons.mpr ⟨sd_q25, List.forall_mem_cons.mpr ⟨sd_q26, List.forall_mem_cons.mpr ⟨sd_q27, List.forall_mem_cons.mpr ⟨sd_q28, List.forall_mem_cons.mpr ⟨sd_q29, List.forall_mem_cons.mpr ⟨sd_q30, List.forall_mem_cons.mpr ⟨sd_q31, List.forall_mem_cons.mpr ⟨sd_q32, List.forall_mem_cons.mpr ⟨sd_q33, fun _ h => nomatch h⟩⟩⟩⟩⟩⟩⟩⟩⟩⟩⟩⟩⟩⟩⟩⟩
theorem sd_ql2 : ∀ m ∈ [34, 35, 36, 37, 38, 39, 40, 41, 42, 43, 44, 45, 46, 47, 48, 49], sd_wd m ∈ tables_1 := List.forall_mem_cons.mpr ⟨sd_q34, List.forall_mem_cons.mpr ⟨sd_q35, List.forall_mem_cons.mpr ⟨sd_q36, List.forall_mem_cons.mpr ⟨sd_q37, List.forall_mem_cons.mpr ⟨sd_q38, List.forall_mem_cons.mpr ⟨sd_q39, List.forall_mem_cons.mpr ⟨sd_q40, List.forall_mem_cons.mpr ⟨sd_q41, List.forall_mem_cons.mpr ⟨sd_q42, List.forall_mem_cons.mpr ⟨sd_q43, List.forall_mem_cons.mpr ⟨sd_q44, List.forall_mem_cons.mpr ⟨sd_q45, List.forall_mem_cons.mpr ⟨sd_q46, List.forall_mem_cons.mpr ⟨sd_q47, List.forall_mem_cons.mpr ⟨sd_q48, List.forall_mem_cons.mpr ⟨sd_q49, fun _ h => nomatch h⟩⟩⟩⟩⟩⟩⟩⟩⟩⟩⟩⟩⟩⟩⟩⟩
theorem sd_ql3 : ∀ m ∈ [50, 51, 52, 53, 54, 55, 56, 57, 58, 59, 60, 61, 62, 63, 64, 65], sd_wd m ∈ tables_1 := List.forall_mem_cons.mpr ⟨sd_q50, List.forall_mem_cons.mpr ⟨sd_q51, List.forall_mem_cons.mpr ⟨sd_q52, List.forall_mem_cons.mpr ⟨sd_q53, List.forall_mem_cons.mpr ⟨sd_q54, List.forall_mem_cons.mpr ⟨sd_q55, List.forall_mem_cons.mpr ⟨sd_q56, List.forall_mem_cons.mpr ⟨sd_q57, List.forall_mem_cons.mpr ⟨sd_q58, List.forall_mem_cons.mpr ⟨sd_q59, List.forall_mem_cons.mpr ⟨sd_q60, List.forall_mem_cons.mpr ⟨sd_q61, List.forall_mem_cons.mpr ⟨sd_q62, List.forall_mem_cons.mpr ⟨sd_q63, List.forall_mem_cons.mpr ⟨sd_q64, List.forall_mem_cons.mpr ⟨sd_q65, fun _ h => nomatch h⟩⟩⟩⟩⟩⟩⟩⟩⟩⟩⟩⟩⟩⟩⟩⟩
theorem sd_ql4 : ∀ m ∈ [66, 67, 68, 69, 70, 71, 72, 73, 74, 75, 76, 77, 78, 79, 80, 81], sd_wd m ∈ tables_1 := List.forall_mem_cons.mpr ⟨sd_q66, List.forall_mem_cons.mpr ⟨sd_q67, List.forall_mem_cons.mpr ⟨sd_q68, List.forall_mem_cons.mpr ⟨sd_q69, List.forall_mem_cons.mpr ⟨sd_q70, List.forall_mem_cons.mpr ⟨sd_q71, List.forall_mem_cons.mpr ⟨sd_q72, List.forall_mem_cons.mpr ⟨sd_q73, List.forall_mem_cons.mpr ⟨sd_q74, List.forall_mem_cons.mpr ⟨sd_q75, List.forall_mem_cons.mpr ⟨sd_q76, List.forall_mem_cons.mpr ⟨sd_q77, List.forall_mem_cons.mpr ⟨sd_q78, List.forall_mem_cons.mpr ⟨sd_q79, List.forall_mem_cons.mpr ⟨sd_q80, List.forall_mem_cons.mpr ⟨sd_q81, fun _ h => nomatch h⟩⟩⟩⟩⟩⟩⟩⟩⟩⟩⟩⟩⟩⟩⟩⟩
theorem sd_ql5 : ∀ m ∈ [82, 83, 84, 85, 86, 87, 88, 89, 90, 91, 92, 93, 94, 95, 96, 97], sd_wd m ∈ tables_1 := List.forall_mem_cons.mpr ⟨sd_q82, List.forall_mem_cons.mpr ⟨sd_q83, List.forall_mem_cons.mpr ⟨sd_q84, List.forall_mem_cons.mpr ⟨sd_q85, List.forall_mem_cons.mpr ⟨sd_q86, List.forall_mem_cons.mpr ⟨sd_q87, List.forall_mem_cons.mpr ⟨sd_q88, List.forall_mem_cons.mpr ⟨sd_q89, List.forall_mem_cons.mpr ⟨sd_q90, List.forall_mem_cons.mpr ⟨sd_q91, List.forall_mem_cons.mpr ⟨sd_q92, List.forall_mem_cons.mpr ⟨sd_q93, List.forall_mem_cons.mpr ⟨sd_q94, List.forall_mem_cons.mpr ⟨sd_q95, List.forall_mem_cons.mpr ⟨sd_q96, List.forall_mem_cons.mpr ⟨sd_q97, fun _ h => nomatch h⟩⟩⟩⟩⟩⟩⟩⟩⟩⟩⟩⟩⟩⟩⟩⟩
theorem sd_ql6 : ∀ m ∈ [98, 99, 100, 101, 102, 103, 104, 105, 106, 107, 108, 109, 110, 111, 112, 113], sd_wd m ∈ tables_1 := List.forall_mem_cons.mpr ⟨sd_q98, List.forall_mem_cons.mpr ⟨sd_q99, List.forall_mem_cons.mpr ⟨sd_q100, List.forall_mem_cons.mpr ⟨sd_q101, List.forall_mem_cons.mpr ⟨sd_q102, List.forall_mem_cons.mpr ⟨sd_q103, List.forall_mem_cons.mpr ⟨sd_q104, List.forall_mem_cons.mpr ⟨sd_q105, List.forall_mem_cons.mpr ⟨sd_q106, List.forall_mem_cons.mpr ⟨sd_q107, List.forall_mem_cons.mpr ⟨sd_q108, List.forall_mem_cons.mpr ⟨sd_q109, List.forall_mem_cons.mpr ⟨sd_q110, List.forall_mem_cons.mpr ⟨sd_q111, List.forall_mem_cons.mpr ⟨sd_q112, List.forall_mem_cons.mpr ⟨sd_q113, fun _ h => nomatch h⟩⟩⟩⟩⟩⟩⟩⟩⟩⟩⟩⟩⟩⟩⟩⟩
theorem sd_ql7 : ∀ m ∈ [114, 115, 116, 117, 118, 119, 120, 121, 122, 123, 124, 125, 126, 127, 128, 129], sd_wd m ∈ tables_1 := List.forall_mem_cons.mpr ⟨sd_q114, List.forall_mem_cons.mpr ⟨sd_q115, List.forall_mem_cons.mpr ⟨sd_q116, List.forall_mem_cons.mpr ⟨sd_q117, List.forall_mem_cons.mpr ⟨sd_q118, List.forall_mem_cons.mpr ⟨sd_q119, List.forall_mem_cons.mpr ⟨sd_q120, List.forall_mem_cons.mpr ⟨sd_q121, List.forall_mem_cons.mpr ⟨sd_q122, List.forall_mem_cons.mpr ⟨sd_q123, List.forall_mem_cons.mpr ⟨sd_q124, List.forall_mem_cons.mpr ⟨sd_q125, List.forall_mem_cons.mpr ⟨sd_q126, List.forall_mem_cons.mpr ⟨sd_q127, List.forall_mem_cons.mpr ⟨sd_q128, List.forall_mem_cons.mpr ⟨sd_q129, fun _ h => nomatch h⟩⟩⟩⟩⟩⟩⟩⟩⟩⟩⟩⟩⟩⟩⟩⟩
theorem sd_ql8 : ∀ m ∈ [130, 131, 132, 133, 134, 135, 136, 137, 138, 139, 140, 141, 142, 143, 144, 145], sd_wd m ∈ tables_1 := List.forall_mem_cons.mpr ⟨sd_q130, List.forall_mem_cons.mpr ⟨sd_q131, List.forall_mem_cons.mpr ⟨sd_q132, List.forall_mem_cons.mpr ⟨sd_q133, List.forall_mem_cons.mpr ⟨sd_q134, List.forall_mem_cons.mpr ⟨sd_q135, List.forall_mem_cons.mpr ⟨sd_q136, List.forall_mem_cons.mpr ⟨sd_q137, List.forall_mem_cons.mpr ⟨sd_q138, List.forall_mem_cons.mpr ⟨sd_q139, List.forall_mem_cons.mpr ⟨sd_q140, List.forall_mem_cons.mpr ⟨sd_q141, List.forall_mem_cons.mpr ⟨sd_q142, List.forall_mem_cons.mpr ⟨sd_q143, List.forall_mem_cons.mpr ⟨sd_q144, List.forall_mem_cons.mpr ⟨sd_q145, fun _ h => nomatch h⟩⟩⟩⟩⟩⟩⟩⟩⟩⟩⟩⟩⟩⟩⟩⟩
theorem sd_ql9 : ∀ m ∈ [146, 147, 148, 149, 150, 151, 152, 153, 154, 155, 156, 157, 158, 159, 160, 161], sd_wd m ∈ tables_1 := List.forall_mem_cons.mpr ⟨sd_q146, List.forall_mem_cons.mpr ⟨sd_q147, List.forall_mem_cons.mpr ⟨sd_q148, List.forall_mem_cons.mpr ⟨sd_q149, List.forall_mem_cons.mpr ⟨sd_q150, List.forall_mem_cons.mpr ⟨sd_q151, List.forall_mem_cons.mpr ⟨sd_q152, List.forall_mem_cons.mpr ⟨sd_q153, List.forall_mem_cons.mpr ⟨sd_q154, List.forall_mem_cons.mpr ⟨sd_q155, List.forall_mem_cons.mpr ⟨sd_q156, List.forall_mem_cons.mpr ⟨sd_q157, List.forall_mem_cons.mpr ⟨sd_q158, List.forall_mem_cons.mpr ⟨sd_q159, List.forall_mem_cons.mpr ⟨sd_q160, List.forall_mem_cons.mpr ⟨sd_q161, fun _ h => nomatch h⟩⟩⟩⟩⟩⟩⟩⟩⟩⟩⟩⟩⟩⟩⟩⟩
theorem sd_ql10 : ∀ m ∈ [162, 163, 164, 165, 166, 167, 168, 169, 170, 171, 172, 173, 174, 175, 176, 177], sd_wd m ∈ tables_1 := List.forall_mem_cons.mpr ⟨sd_q162, List.forall_mem_cons.mpr ⟨sd_q163, List.forall_mem_cons.mpr ⟨sd_q164, List.forall_mem_cons.mpr ⟨sd_q165, List.forall_mem_cons.mpr ⟨sd_q166, List.forall_mem_cons.mpr ⟨sd_q167, List.forall_mem_cons.mpr ⟨sd_q168, List.forall_mem_cons.mpr ⟨sd_q169, List.forall_mem_cons.mpr ⟨sd_q170, List.forall_mem_cons.mpr ⟨sd_q171, List.forall_mem_cons.mpr ⟨sd_q172, List.forall_mem_cons.mpr ⟨sd_q173, List.forall_mem_cons.mpr ⟨sd_q174, List.forall_mem_cons.mpr ⟨sd_q175, List.forall_mem_cons.mpr ⟨sd_q176, List.forall_mem_cons.mpr ⟨sd_q177, fun _ h => nomatch h⟩⟩⟩⟩⟩⟩⟩⟩⟩⟩⟩⟩⟩⟩⟩⟩
theorem sd_ql11 : ∀ m ∈ [178, 179, 180, 181, 182, 183, 184, 185, 186, 187, 188, 189, 190, 191, 192, 193], sd_wd m ∈ tables_1 := List.forall_mem_cons.mpr ⟨sd_q178, List.forall_mem_cons.mpr ⟨sd_q179, List.forall_mem_cons.mpr ⟨sd_q180, List.forall_mem_cons.mpr ⟨sd_q181, List.forall_mem_cons.mpr ⟨sd_q182, List.forall_mem_cons.mpr ⟨sd_q183, List.forall_mem_cons.mpr ⟨sd_q184, List.forall_mem_cons.mpr ⟨sd_q185, List.forall_mem_cons.mpr ⟨sd_q186, List.forall_mem_cons.mpr ⟨sd_q187, List.forall_mem_cons.mpr ⟨sd_q188, List.forall_mem_cons.mpr ⟨sd_q189, List.forall_mem_cons.mpr ⟨sd_q190, List.forall_mem_cons.mpr ⟨sd_q191, List.forall_mem_cons.mpr ⟨sd_q192, List.forall_mem_cons.mpr ⟨sd_q193, fun _ h => nomatch h⟩⟩⟩⟩⟩⟩⟩⟩⟩⟩⟩⟩⟩⟩⟩⟩
theorem sd_ql12 : ∀ m ∈ [194, 195, 196, 197, 198, 199, 200, 201, 202, 203, 204, 205, 206, 207, 208, 209], sd_wd m ∈ tables_1 := List.forall_mem_cons.mpr ⟨sd_q194, List.forall_mem_cons.mpr ⟨sd_q195, List.forall_mem_cons.mpr ⟨sd_q196, List.forall_mem_cons.mpr ⟨sd_q197, List.forall_mem_cons.mpr ⟨sd_q198, List.forall_mem_cons.mpr ⟨sd_q199, List.forall_mem_cons.mpr ⟨sd_q200, List.forall_mem_cons.mpr ⟨sd_q201, List.forall_mem_cons.mpr ⟨sd_q202, List.forall_mem_cons.mpr ⟨sd_q203, List.forall_mem_cons.mpr ⟨sd_q204, List.forall_mem_cons.mpr ⟨sd_q205, List.forall_mem_cons.mpr ⟨sd_q206, List.forall_mem_cons.mpr ⟨sd_q207, List.forall_mem_cons.mpr ⟨sd_q208, List.forall_mem_cons.mpr ⟨sd_q209, fun _ h => nomatch h⟩⟩⟩⟩⟩⟩⟩⟩⟩⟩⟩⟩⟩⟩⟩⟩
theorem sd_ql13 : ∀ m ∈ [210, 211, 212, 213, 214, 215, 216, 217, 218, 219, 220, 221, 222, 223, 224, 225], sd_wd m ∈ tables_1 := List.forall_mem_cons.mpr ⟨sd_q210, List.forall_mem_cons.mpr ⟨sd_q211, List.forall_mem_cons.mpr ⟨sd_q212, List.forall_mem_cons.mpr ⟨sd_q213, List.forall_mem_cons.mpr ⟨sd_q214, List.forall_mem_cons.mpr ⟨sd_q215, List.forall_mem_cons.mpr ⟨sd_q216, List.forall_mem_cons.mpr ⟨sd_q217, List.forall_mem_cons.mpr ⟨sd_q218, List.forall_mem_cons.mpr ⟨sd_q219, List.forall_mem_cons.mpr ⟨sd_q220, List.forall_mem_cons.mpr ⟨sd_q221, List.forall_mem_cons.mpr ⟨sd_q222, List.forall_mem_cons.mpr ⟨sd_q223, List.forall_mem_cons.mpr ⟨sd_q224, List.forall_mem_cons.mpr ⟨sd_q225, fun _ h => nomatch h⟩⟩⟩⟩⟩⟩⟩⟩⟩⟩⟩⟩⟩⟩⟩⟩
theorem sd_ql14 : ∀ m ∈ [226, 227, 228, 229, 230, 231, 232, 233, 234, 235, 236, 237, 238, 239, 240, 241], sd_wd m ∈ tables_1 := List.forall_mem_cons.mpr ⟨sd_q226, List.forall_mem_cons.mpr ⟨sd_q227, List.forall_mem_cons.mpr ⟨sd_q228, List.forall_mem_cons.mpr ⟨sd_q229, List.forall_mem_cons.mpr ⟨sd_q230, List.forall_mem_cons.mpr ⟨sd_q231, List.forall_mem_cons.mpr ⟨sd_q232, List.forall_mem_cons.mpr ⟨sd_q233, List.forall_mem_cons.mpr ⟨sd_q234, List.forall_mem_cons.mpr ⟨sd_q235, List.forall_mem_cons.mpr ⟨sd_q236, List.forall_mem_cons.mpr ⟨sd_q237, List.forall_mem_cons.mpr ⟨sd_q238, List.forall_mem_cons.mpr ⟨sd_q239, List.forall_mem_cons.mpr ⟨sd_q240, List.forall_mem_cons.mpr ⟨sd_q241, fun _ h => nomatch h⟩⟩⟩⟩⟩⟩⟩⟩⟩⟩⟩⟩⟩⟩⟩⟩
theorem sd_ql15 : ∀ m ∈ [242], sd_wd m ∈ tables_1 := List.forall_mem_cons.mpr ⟨sd_q242, fun _ h => nomatch h⟩
def sd_mq : List Nat := [2, 3, 4, 5, 6, 7, 8, 9, 10, 11, 12, 13, 14, 15, 16, 17] ++ [18, 19, 20, 21, 22, 23, 24, 25, 26, 27, 28, 29, 30, 31, 32, 33] ++ [34, 35, 36, 37, 38, 39, 40, 41, 42, 43, 44, 45, 46, 47, 48, 49] ++ [50, 51, 52, 53, 54, 55, 56, 57, 58, 59, 60, 61, 62, 63, 64, 65] ++ [66, 67, 68, 69, 70, 71, 72, 73, 74, 75, 76, 77, 78, 79, 80, 81] ++ [82, 83, 84, 85, 86, 87, 88, 89, 90, 91, 92, 93, 94, 95, 96, 97] ++ [98, 99, 100, 101, 102, 103, 104, 105, 106, 107, 108, 109, 110, 111, 112, 113] ++ [114, 115, 116, 117, 118, 119, 120, 121, 122, 123, 124, 125, 126, 127, 128, 129] ++ [130, 131, 132, 133, 134, 135, 136, 137, 138, 139, 140, 141, 142, 143, 144, 145] ++ [146, 147, 148, 149, 150, 151, 152, 153, 154, 155, 156, 157, 158, 159, 160, 161] ++ [162, 163, 164, 165, 166, 167, 168, 169, 170, 171, 172, 173, 174, 175, 176, 177] ++ [178, 179, 180, 181, 182, 183, 184, 185, 186, 187, 188, 189, 190, 191, 192, 193] ++ [194, 195, 196, 197, 198, 199, 200, 201, 202, 203, 204, 205, 206, 207, 208, 209] ++ [210, 211, 212, 213, 214, 215, 216, 217, 218, 219, 220, 221, 222, 223, 224, 225] ++ [226, 227, 228, 229, 230, 231, 232, 233, 234, 235, 236, 237, 238, 239, 240, 241] ++ [242]
theorem sd_mq_in : ∀ m, m < 243 → (m ≤ 1 ∨ m ∈ sd_mq) := by decide +kernel
theorem sd_qq : ∀ m ∈ sd_mq, sd_wd m ∈ tables_1 := (List.forall_mem_append.mpr ⟨(List.forall_mem_append.mpr ⟨(List.forall_mem_append.mpr ⟨(List.forall_mem_append.mpr ⟨(List.forall_mem_append.mpr ⟨(List.forall_mem_append.mpr ⟨(List.forall_mem_append.mpr ⟨(List.forall_mem_append.mpr ⟨(List.forall_mem_append.mpr ⟨(List.forall_mem_append.mpr ⟨(List.forall_mem_append.mpr ⟨(List.forall_mem_append.mpr ⟨(List.forall_mem_append.mpr ⟨(List.forall_mem_append.mpr ⟨(List.forall_mem_append.mpr ⟨sd_ql0, sd_ql1⟩), sd_ql2⟩), sd_ql3⟩), sd_ql4⟩), sd_ql5⟩), sd_ql6⟩), sd_ql7⟩), sd_ql8⟩), sd_ql9⟩), sd_ql10⟩), sd_ql11⟩), sd_ql12⟩), sd_ql13⟩), sd_ql14⟩), sd_ql15⟩)
theorem sd_wdw (a : Nat) : goodWord (sd_wd a) = true := by
  unfold sd_wd
  split <;> rfl
theorem sd_wdg {a : Nat} (h1 : 1 < a) (h : a < 243) : sd_wd a ∈ sd_gw := by
  refine List.mem_filter.mpr ⟨?_, sd_wdw a⟩
  rcases sd_mq_in a h with q | q
  · omega
  · exact List.mem_append_right _ (sd_qq a q)
/-- a method's words -/
def sd_mk (a : Nat) : Bool := (sd_at (sd_ii a) (.initialized (sd_y a).cls) && (decide ((sd_y a).cls ≠ "java/lang/invoke/MethodHandle") && (decide ((sd_y a).cls ≠ "java/lang/invoke/VarHandle") && (plainName (sd_y a).cls && (match sd_k a with
  | 0 => sd_at (sd_mi a) (.instanceMethod (sd_y a)) && (sd_at (sd_si a) (.selects (sd_y a).cls (sd_y a) (sd_y a)) && (match ev_oc a with
    | 99 => decide ((sd_y a).cls = "java/lang/String")
    | ci => (vwCl[ci]?).any (fun q => decide (q.1 = (sd_y a).cls))))
  | 1 => decide ((sd_y a).name = "<init>") && sd_at (sd_mi a) (.instanceMethod (sd_y a))
  | _ => sd_at (sd_ti a) (.static (sd_y a)))))))
theorem sd_mk_o0 : ∀ a, a < 41 → (Nat.ble (a + 0) 1 || sd_mk (a + 0)) = true := by decide +kernel
theorem sd_mk_o1 : ∀ a, a < 41 → (Nat.ble (a + 41) 1 || sd_mk (a + 41)) = true := by decide +kernel
theorem sd_mk_o2 : ∀ a, a < 41 → (Nat.ble (a + 82) 1 || sd_mk (a + 82)) = true := by decide +kernel
theorem sd_mk_o3 : ∀ a, a < 41 → (Nat.ble (a + 123) 1 || sd_mk (a + 123)) = true := by decide +kernel
theorem sd_mk_o4 : ∀ a, a < 41 → (Nat.ble (a + 164) 1 || sd_mk (a + 164)) = true := by decide +kernel
theorem sd_mk_o5 : ∀ a, a < 38 → (Nat.ble (a + 205) 1 || sd_mk (a + 205)) = true := by decide +kernel
theorem sd_mk_ok0 (a : Nat) (h : a < 243) : (Nat.ble a 1 || sd_mk a) = true := by
  by_cases h0 : a < 41
  · have := sd_mk_o0 (a - 0) (by omega)
    rwa [show a - 0 + 0 = a by omega] at this
  by_cases h1 : a < 82
  · have := sd_mk_o1 (a - 41) (by omega)
    rwa [show a - 41 + 41 = a by omega] at this
  by_cases h2 : a < 123
  · have := sd_mk_o2 (a - 82) (by omega)
    rwa [show a - 82 + 82 = a by omega] at this
  by_cases h3 : a < 164
  · have := sd_mk_o3 (a - 123) (by omega)
    rwa [show a - 123 + 123 = a by omega] at this
  by_cases h4 : a < 205
  · have := sd_mk_o4 (a - 164) (by omega)
    rwa [show a - 164 + 164 = a by omega] at this
  by_cases h5 : a < 243
  · have := sd_mk_o5 (a - 205) (by omega)
    rwa [show a - 205 + 205 = a by omega] at this
  omega
theorem sd_mk_ok (a : Nat) (h1 : 1 < a) (h : a < 243) : sd_mk a = true := by
  have := sd_mk_ok0 a h
  simp only [Bool.or_eq_true] at this
  rcases this with q | q
  · have := Nat.le_of_ble_eq_true q; omega
  · exact q
def sd_kcall (mi pc a b len : Nat) (tb : List Nat) : Bool :=
  Nat.beq len 3 && ((Nat.blt 1 a && Nat.blt a 243) && (Nat.ble b (ev_ml a) && (Nat.beq (tb.getD 2 0) (tb.getD 2 9) && (
   (match tb.getD 3 9 with
    | 0 => sd_at (tb.getD 1 0 + 133) (.methodLink (sd_y mi).cls (tb.getD 0 0) (sd_y a))
    | _ => decide (sd_tt (tb.getD 1 0 + 133) = some (.methodLinkNest (sd_y mi).cls (tb.getD 0 0) (sd_y a) "RefreshTrader")) && decide (sd_hh a = [])) &&
   (match tb.getD 2 9 with
    | 0 => sd_is (sd_cc mi) pc (.invokevirtual (tb.getD 0 0)) 3 && (Nat.beq (sd_k a) 0 && (decide (sd_hh a = []) && (Nat.blt 0 b && decide ((parseMethodDescriptor (sd_y a).desc).map (fun d => d.parameters.length) = some (b - 1)))))
    | 1 => sd_is (sd_cc mi) pc (.invokespecial (tb.getD 0 0)) 3 && (Nat.beq (sd_k a) 1 && (decide (sd_hh a = []) && (Nat.blt 0 b && (decide (sd_ret a = none) && decide ((parseMethodDescriptor (sd_y a).desc).map (fun d => d.parameters.length) = some (b - 1))))))
    | _ => sd_is (sd_cc mi) pc (.invokestatic (tb.getD 0 0)) 3 && (Nat.beq (sd_k a) 2 && decide ((parseMethodDescriptor (sd_y a).desc).map (fun d => d.parameters.length) = some b)))))))
theorem sd_s.len {g : sd_G} {n : Nat} : ∀ {l : List ev_V} {r : List Value}, sd_s g n l r → l.length = r.length
  | [], [], _ => rfl
  | _ :: _, _ :: _, h => by simp only [List.length_cons]; rw [h.2.len]
  | [], _ :: _, h => h.elim
  | _ :: _, [], h => h.elim
theorem sd_s.app {g : sd_G} {n : Nat} : ∀ {l l' : List ev_V} {r r' : List Value}, sd_s g n l r → sd_s g n l' r' → sd_s g n (l ++ l') (r ++ r')
  | [], _, [], _, _, h' => h'
  | _ :: _, _, _ :: _, _, h, h' => ⟨h.1, h.2.app h'⟩
  | [], _, _ :: _, _, h, _ => h.elim
  | _ :: _, _, [], _, h, _ => h.elim
theorem sd_s.rev {g : sd_G} {n : Nat} : ∀ {l : List ev_V} {r : List Value}, sd_s g n l r → sd_s g n l.reverse r.reverse
  | [], [], _ => trivial
  | _ :: _, _ :: _, h => by
    rw [List.reverse_cons, List.reverse_cons]
    exact h.2.rev.app ⟨h.1, trivial⟩
  | [], _ :: _, h => h.elim
  | _ :: _, [], h => h.elim
theorem sd_s.take {g : sd_G} {n : Nat} : ∀ {l : List ev_V} {r : List Value} (b : Nat), sd_s g n l r → sd_s g n (l.take b) (r.take b)
  | [], [], b, _ => by simp; exact trivial
  | _ :: _, _ :: _, 0, _ => trivial
  | _ :: _, _ :: _, b + 1, h => ⟨h.1, h.2.take b⟩
  | [], _ :: _, _, h => h.elim
  | _ :: _, [], _, h => h.elim
theorem sd_s.drop {g : sd_G} {n : Nat} : ∀ {l : List ev_V} {r : List Value} (b : Nat), sd_s g n l r → sd_s g n (l.drop b) (r.drop b)
  | [], [], b, _ => by simp; exact trivial
  | _ :: _, _ :: _, 0, h => h
  | _ :: _, _ :: _, b + 1, h => h.2.drop b
  | [], _ :: _, _, h => h.elim
  | _ :: _, [], _, h => h.elim
theorem sd_gI (a : Nat) (h1 : 1 < a) (h : a < 243) : GoodIn sd_gw (sd_ws a) := by
  intro w hw
  have hin : w ∈ sd_gw := by
    rcases List.mem_cons.mp hw with e | e
    · rw [e]; exact sd_wdg h1 h
    · exact e
  exact ⟨hin, good_of_word (List.mem_filter.mp hin).2⟩
section SD9
variable {p : Program} {l : Launch} {e : Env} {R : Room} {s : State} {m : MethodId} {args : Array Value} {below : List Frame} {meth : Method} {c : Code} {Q : State → Prop} {g : sd_G} {mi : Nat} {res : ev_O} {μz : ev_M} {K : ev_K}
theorem sd_bl (g : sd_G) (μ : ev_M) (vs : List Value) : FrameBlind (sd_Pc g μ vs) := fun a U gg mk h => by
  obtain ⟨h1, h2, h3, h4⟩ := h
  exact ⟨h1, sd_X.same (s := U) (H := U.heap) rfl h4 h2, h3, h4⟩
theorem sd_pre (C : sd_cx p l R s m args meth c g mi) {μ : ev_M} {H : Heap} {locs : List Loc} {vs : List Value} (hS : va_S (sd_A g) s.heap H locs) (hR : sd_R g μ H) : ∀ U : State, U.heap = H → s.WarmedH U.vm → sd_Pc g μ vs vs.toArray U := by
  obtain ⟨hx, hb, hml, hown, hts, hX, -, -, hz, -⟩ := C
  intro U hU hW
  exact ⟨rfl, by rw [hU]; exact sd_X.moved hW hS.2.1 hz hX, by rw [hU]; exact hR, by rw [hU]; exact Nat.le_trans hz hS.1⟩
theorem sd_rcv {kd a : Nat} {as : List ev_V} (h2 : kd ≠ 2) (hrc : ev_rc kd a as = true) : ∃ (r i : Nat) (rest : List ev_V), as = .inr (.inr (r, i)) :: rest ∧ ((r = 100 ∧ ev_oc a = 99) ∨ ev_kn r = (0, ev_oc a)) := by
  have e : ev_rc kd a as = ev_rc 0 a as := by
    unfold ev_rc
    split
    · exact absurd rfl h2
    · rfl
  rw [e] at hrc
  match as, hrc with
  | .inr (.inr (r, i)) :: rest, hrc =>
    refine ⟨r, i, rest, rfl, ?_⟩
    have hrc : (bif Nat.beq r 100 then Nat.beq (ev_oc a) 99 else Nat.beq (ev_kn r).1 0 && Nat.beq (ev_kn r).2 (ev_oc a)) = true := hrc
    cases h100 : Nat.beq r 100 with
    | true =>
      rw [h100] at hrc
      exact Or.inl ⟨Nat.eq_of_beq_eq_true h100, Nat.eq_of_beq_eq_true hrc⟩
    | false =>
      rw [h100] at hrc
      simp only [cond_false, Bool.and_eq_true] at hrc
      exact Or.inr (Prod.ext (Nat.eq_of_beq_eq_true hrc.1) (Nat.eq_of_beq_eq_true hrc.2))
  | [], hrc => cases hrc
  | .inl _ :: _, hrc => cases hrc
  | .inr (.inl _) :: _, hrc => cases hrc
theorem sd_recv (C : sd_cx p l R s m args meth c g mi) {kd a n : Nat} {as : List ev_V} {vs : List Value} {μ : ev_M} {H : Heap} {locs : List Loc} (hn : n = μ.1) (h2 : kd ≠ 2) (hrc : ev_rc kd a as = true) (hs : sd_s g n as vs) (hS : va_S (sd_A g) s.heap H locs) (hR : sd_R g μ H) (ho : (match ev_oc a with
    | 99 => decide ((sd_y a).cls = "java/lang/String")
    | ci => (vwCl[ci]?).any (fun q => decide (q.1 = (sd_y a).cls))) = true) : ∃ (b : Nat) (vs' : List Value), vs = .ref b :: vs' ∧ ∃ cellB : Cell, H[b]? = some cellB ∧ cellB.vm.isStatics = false ∧ s.vm.findClass (sd_y a).cls = some cellB.cls := by
  obtain ⟨hx, hb, hml, hown, hts, hX, -⟩ := C
  subst hn
  obtain ⟨r, i, rest, rfl, ⟨er, eo⟩ | hkn⟩ := sd_rcv h2 hrc
  · subst er
    rw [eo] at ho
    obtain ⟨vs', rfl, hg, hs'⟩ := hs.consR (by decide)
    have hcl : (sd_y a).cls = "java/lang/String" := of_decide_eq_true ho
    obtain ⟨cell, c1, c2, c3, -⟩ := (hX.2.2.2.1 i (hg.2.1 (Or.inl rfl))).1.kept hS.2.1
    exact ⟨_, _, rfl, cell, c1, c2, by rw [hcl]; exact c3⟩
  · have hr : r < 62 := sd_kn62 (by rw [hkn]; show 0 < 6; decide)
    obtain ⟨vs', rfl, hg, hs'⟩ := hs.consR (by omega)
    obtain ⟨q, hq, cell, q1, q2, q3, q4⟩ := sd_c0 (hR.1 r i hr (sd_al62 hg hr)) hkn
    have hfc := (hX.1.1 _ _ hq).2.1
    have hlt := sd_ci hq
    have hcl : q.1 = (sd_y a).cls := by
      split at ho
      · rename_i z
        rw [z] at hlt
        exact absurd hlt (by decide)
      · rw [hq] at ho
        exact of_decide_eq_true ho
    exact ⟨_, _, rfl, cell, q1, by rw [q3]; rfl, by rw [← hcl, q2]; exact hfc⟩
/-- every call: it returns as told, or throws as told -/
theorem sd_call (C : sd_cx p l R s m args meth c g mi) {call : ev_F → ev_M → ev_T} (hP : sd_P l g call) {pc a b len : Nat} {tb : List Nat} (hck : sd_kcall mi pc a b len tb = true) {st : List ev_V} {μ μ1 : ev_M} {o1 : ev_O} {cl sl : Nat} {H : Heap} {locs : List Loc} {vl : Array Slot} {vs : List Value}
    (hb : b ≤ st.length) (hwd : ev_wd (st.drop b) ≤ 8) (hfr : ev_fr a < ev_fr mi) (hlr : 19 + ev_ml a + ev_lr a ≤ ev_lr mi) (hrc : ev_rc (tb.getD 2 0) a ((st.take b).reverse) = true) (hpl : ev_pl ((st.take b).reverse) = true) (hmc : cl + ev_mc a ≤ ev_mc mi) (hms : sl + ev_ms a ≤ ev_ms mi)
    (hc : call (a, 0, (st.take b).reverse, [], 0, 0) μ = some (o1, μ1)) (hl : vl.size = ev_ml mi) (hs : sd_s g μ.1 st vs) (hS : va_S (sd_A g) s.heap H locs) (hR : sd_R g μ H) :
    μ.1 ≤ μ1.1 ∧ ((∃ z, o1 = .inl z) → va_Run p l e R s m args below meth c H locs cl sl (ev_mc a) (ev_ms a) (F0 m pc vl vs) (vs.drop b) (sd_Qc g o1 μ1 #[]) (sd_A g)) ∧
    ((tb.getD 2 9 = 0 ∧ tb.getD 3 9 = 0) → vx_Run p l e R s m args below meth c H locs cl sl (ev_mc a) (ev_ms a) (F0 m pc vl vs) (vs.drop b) (sd_Qc g o1 μ1 #[]) (sd_XC g o1 μ1) (sd_A g)) := by
  have C0 := C
  obtain ⟨hx, hbc, hml, hown, hts, hX, hlk, htr, hz, ⟨hrf, hrl, hrcc, hrss⟩, -⟩ := C
  simp only [sd_kcall, Bool.and_eq_true] at hck
  obtain ⟨hlen, ha, hbm, hkd, hlink, hkind⟩ := hck
  have ha1 : 1 < a := Nat.le_of_ble_eq_true ha.1
  have ha : a < 243 := Nat.le_of_ble_eq_true ha.2
  have hbm : b ≤ ev_ml a := Nat.le_of_ble_eq_true hbm
  have hkd : tb.getD 2 0 = tb.getD 2 9 := Nat.eq_of_beq_eq_true hkd
  rw [hkd] at hrc
  have hm := sd_mk_ok a ha1 ha
  simp only [sd_mk, Bool.and_eq_true, decide_eq_true_eq] at hm
  obtain ⟨hmi, hmh, hmv, hmp, hmk⟩ := hm
  have hst := (hs.take b).rev
  have hlen2 : ((st.take b).reverse).length ≤ ev_ml a := by simp; omega
  obtain ⟨hmono, hM⟩ := hP a _ μ o1 μ1 ((vs.take b).reverse) ha1 ha hlen2 hpl hc hst
  have hvl := hs.len
  have hAl : ((vs.take b).reverse).length = b := by simp; omega
  have hW : 2 * (F0 m pc vl vs).monitorRoom + ((vs.drop b).map fun v => v.category).sum ≤ 8 := by
    have := sd_wdc (hs.drop b)
    show 2 * 0 + _ ≤ 8
    omega
  have hf : cl + ev_mc a ≤ R.cells ∧ sl + ev_ms a ≤ R.slots := ⟨by rw [hrcc]; exact hmc, by rw [hrss]; exact hms⟩
  have hroom : (sd_rm a).frames + 1 ≤ R.frames ∧ 8 + (ev_ml a + 11) + (sd_rm a).locals ≤ R.locals := by
    rw [hrf, hrl]
    show ev_fr a + 1 ≤ ev_fr mi ∧ 8 + (ev_ml a + 11) + ev_lr a ≤ ev_lr mi
    omega
  have CF : CallFix p m c (sd_cc mi) (ev_ml mi) s args sd_gw (sd_y mi).cls := ⟨hx, hbc, hml, hown, hts⟩
  have hpre := sd_pre C0 (vs := (vs.take b).reverse) hS hR
  have hini := hts _ (sd_at_in hmi)
  have hsplit : vs = ((vs.take b).reverse).reverse ++ vs.drop b := by rw [List.reverse_reverse, List.take_append_drop]
  have hMet : (∃ z, o1 = .inl z) → Met l (sd_y a) (sd_ws a) (sd_rm a) (sd_Pc g μ ((vs.take b).reverse)) (sd_Qc g o1 μ1) (ev_mc a) (ev_ms a) (sd_A g) := fun ⟨z, hz⟩ =>
    MetFree.mono hM (fun _ _ h => h) (fun _ _ _ _ _ h => h) (fun a st o t _ h => h.elim id (fun ⟨q, _, E, ce, L, hx, _⟩ => by
      obtain ⟨⟨e9, he, -⟩, -⟩ := hx
      rw [hz] at he
      cases he))
  refine ⟨hmono, ?_⟩
  split at hkind
  · -- virtual
    rename_i hk0
    simp only [Bool.and_eq_true, decide_eq_true_eq] at hkind
    obtain ⟨hd, hkk, hnil, hb0, hdesc⟩ := hkind
    have hkk := Nat.eq_of_beq_eq_true hkk
    have hb0 : 0 < b := Nat.le_of_ble_eq_true hb0
    rw [hkk] at hmk
    simp only [Bool.and_eq_true] at hmk
    obtain ⟨hin, hse, hoc⟩ := hmk
    rw [hk0] at hrc
    obtain ⟨bb, As, hAs, hcell⟩ := sd_recv C0 (μ := μ) rfl (by decide) hrc hst hS hR hoc
    rw [hAs] at hsplit hpre hMet hM hAl
    have hstack : (F0 m pc vl vs).stack = As.reverse ++ .ref bb :: vs.drop b := hsplit.trans (by rw [List.reverse_cons, List.append_assoc]; rfl)
    have hn : As.length = b - 1 := by simp only [List.length_cons] at hAl; omega
    have hw : sd_ws a = Cond.code (sd_y a) (sd_cc a) (ev_ml a) (sd_ret a) :: sd_gw := by unfold sd_ws; rw [sd_wd_nil hnil]
    have hin' := hts _ (sd_at_in hin)
    have hse' := hts _ (sd_at_in hse)
    split at hlink
    · have cb : CallW R s args (sd_y mi).cls (sd_y a).cls (tb.getD 0 0) (sd_y a) (sd_cc a) (ev_ml a) (sd_ret a) (sd_ws a) (sd_rm a) (ev_mc a) (ev_ms a) (b - 1) :=
        ⟨callB_of (b - 1) hts (sd_gI a ha1 ha) hw rfl rfl hini (hts _ (sd_at_in hlink)) ⟨hmh, hmv, hdesc⟩ hroom, hin', hse'⟩
      exact ⟨fun z => va_runV CF (hMet z) cb ⟨sd_bl g μ _, hcell, hpre⟩ rfl hn hl hstack hW (sd_is_eq hd) hf, fun _ => vx_runV CF hM cb ⟨sd_bl g μ _, hcell, hpre⟩ rfl hn hl hstack hW (sd_is_eq hd) hf⟩
    · rename_i hne
      simp only [Bool.and_eq_true, decide_eq_true_eq] at hlink
      have cb := va_cnB (R := R) (rm := sd_rm a) (mc := ev_mc a) (ms := ev_ms a) (b - 1) hts (sd_gI a ha1 ha) hw rfl rfl (hX.2.1 _ (sd_tt_in hlink.1) rfl) hini ⟨hmh, hmv, hdesc⟩ hroom
      exact ⟨fun z => va_runVN CF (hMet z) ⟨cb, hin', hse'⟩ ⟨sd_bl g μ _, hcell, hpre⟩ rfl hn hl hstack hW (sd_is_eq hd) hf, fun z => absurd z.2 hne⟩
  · -- special
    rename_i hk1
    simp only [Bool.and_eq_true, decide_eq_true_eq] at hkind
    obtain ⟨hd, hkk, hnil, hb0, hret, hdesc⟩ := hkind
    have hkk := Nat.eq_of_beq_eq_true hkk
    have hb0 : 0 < b := Nat.le_of_ble_eq_true hb0
    rw [hkk] at hmk
    simp only [Bool.and_eq_true, decide_eq_true_eq] at hmk
    obtain ⟨hname, hin⟩ := hmk
    rw [hk1] at hrc
    obtain ⟨bb, As, hAs⟩ : ∃ (bb : Nat) (As : List Value), (vs.take b).reverse = .ref bb :: As := by
      obtain ⟨r, i, rest, he, ⟨er, eo⟩ | hkn⟩ := sd_rcv (by decide) hrc
      · rw [he] at hst
        subst er
        obtain ⟨vs', e9, -⟩ := hst.consR (by decide)
        exact ⟨_, _, e9⟩
      · rw [he] at hst
        have hr : r < 62 := sd_kn62 (by rw [hkn]; show 0 < 6; decide)
        obtain ⟨vs', e9, -⟩ := hst.consR (by omega)
        exact ⟨_, _, e9⟩
    rw [hAs] at hsplit hpre hMet hM hAl
    have hstack : (F0 m pc vl vs).stack = As.reverse ++ .ref bb :: vs.drop b := hsplit.trans (by rw [List.reverse_cons, List.append_assoc]; rfl)
    have hn : As.length = b - 1 := by simp only [List.length_cons] at hAl; omega
    have hw : sd_ws a = Cond.code (sd_y a) (sd_cc a) (ev_ml a) none :: sd_gw := by unfold sd_ws; rw [sd_wd_nil hnil, hret]
    have hin' := hts _ (sd_at_in hin)
    refine ⟨fun z => ?_, fun z => absurd (hk1.symm.trans z.1) (by decide)⟩
    split at hlink
    · exact va_runI CF (hMet z) ⟨callB_of (b - 1) hts (sd_gI a ha1 ha) hw rfl rfl hini (hts _ (sd_at_in hlink)) ⟨hmh, hmv, hdesc⟩ hroom, hname, hin'⟩ ⟨sd_bl g μ _, hpre⟩ rfl hn hl hstack hW (sd_is_eq hd) hf
    · simp only [Bool.and_eq_true, decide_eq_true_eq] at hlink
      have cb := va_cnB (R := R) (rm := sd_rm a) (mc := ev_mc a) (ms := ev_ms a) (b - 1) hts (sd_gI a ha1 ha) hw rfl rfl (hX.2.1 _ (sd_tt_in hlink.1) rfl) hini ⟨hmh, hmv, hdesc⟩ hroom
      exact va_runIN CF (hMet z) ⟨cb, hname, hin'⟩ ⟨sd_bl g μ _, hpre⟩ rfl hn hl hstack hW (sd_is_eq hd) hf
  · -- static
    rename_i hne0 hne1
    simp only [Bool.and_eq_true, decide_eq_true_eq] at hkind
    obtain ⟨hd, hkk, hdesc⟩ := hkind
    have hkk := Nat.eq_of_beq_eq_true hkk
    rw [hkk] at hmk
    have hstat := hts _ (sd_at_in hmk)
    have hstack : (F0 m pc vl vs).stack = ((vs.take b).reverse).reverse ++ vs.drop b := hsplit
    refine ⟨fun z => ?_, fun z => absurd z.1 hne0⟩
    by_cases hnil : sd_hh a = []
    · have hw : sd_ws a = Cond.code (sd_y a) (sd_cc a) (ev_ml a) (sd_ret a) :: sd_gw := by unfold sd_ws; rw [sd_wd_nil hnil]
      split at hlink
      · exact va_runS (As := (vs.take b).reverse) CF (hMet z) ⟨callB_of b hts (sd_gI a ha1 ha) hw rfl rfl hini (hts _ (sd_at_in hlink)) ⟨hmh, hmv, hdesc⟩ hroom, hstat⟩ ⟨sd_bl g μ _, hpre⟩ rfl hAl hl hstack hW (sd_is_eq hd) hf
      · simp only [Bool.and_eq_true, decide_eq_true_eq] at hlink
        have cb := va_cnB (R := R) (rm := sd_rm a) (mc := ev_mc a) (ms := ev_ms a) b hts (sd_gI a ha1 ha) hw rfl rfl (hX.2.1 _ (sd_tt_in hlink.1) rfl) hini ⟨hmh, hmv, hdesc⟩ hroom
        exact va_runSN (As := (vs.take b).reverse) CF (hMet z) ⟨cb, hstat, trivial⟩ ⟨sd_bl g μ _, hpre⟩ rfl hAl hl hstack hW (sd_is_eq hd) hf
    · split at hlink
      · have hcw : Cond.codeWith (sd_y a) (sd_cc a) (ev_ml a) (sd_ret a) (sd_hh a) ∈ sd_ws a := by unfold sd_ws; rw [sd_wd_con hnil]; exact List.mem_cons_self
        have hcw2 : Cond.codeWith (sd_y a) (sd_cc a) (ev_ml a) (sd_ret a) (sd_hh a) ∈ sd_gw := (sd_gI a ha1 ha _ hcw).1
        have cw : vx_CSW R s args (sd_y mi).cls (tb.getD 0 0) (sd_y a) (sd_cc a) (ev_ml a) (sd_ret a) (sd_hh a) (sd_ws a) (sd_rm a) (ev_mc a) (ev_ms a) b :=
          ⟨⟨rfl, rfl, hroom.1, hroom.2, pay_in hts (sd_gI a ha1 ha), hcw⟩, hts _ hcw2, hini, ⟨hmh, hmv⟩, fun sig h => by
            have h2 := hdesc
            rw [h] at h2
            exact (Option.some.inj h2).symm, hts _ (sd_at_in hlink), hstat⟩
        exact vx_runSW (As := (vs.take b).reverse) CF (hMet z) cw ⟨sd_bl g μ _, hpre⟩ rfl hAl hl hstack hW (sd_is_eq hd) hf
      · simp only [Bool.and_eq_true, decide_eq_true_eq] at hlink
        exact absurd hlink.2 hnil
end SD9
