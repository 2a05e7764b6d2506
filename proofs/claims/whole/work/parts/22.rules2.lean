/-! more rules of machine B: division of what is not below 0 -/
section BRules2
variable {m pc nx tg : Nat} {ls r st : List dsU} {M : dsMem} {Q : bQT}
theorem b_idivP {x y : Int} (hd : dcd m pc .idiv nx tg) (h : (0 ≤ x ∧ x < 2147483648) ∧ 0 < y) (k : bB m nx ls (uI (x / y) :: r) M Q) : bB m pc ls (uI y :: uI x :: r) M Q := by
  refine b_idiv hd (by omega) ?_
  have h1 : x / y ≤ x := Int.ediv_le_self y h.1.1
  have h2 : 0 ≤ x / y := Int.ediv_nonneg h.1.1 (by omega)
  rw [Int.tdiv_eq_ediv_of_nonneg h.1.1, dsw_r (by omega)]
  exact k
theorem b_iremP {x y : Int} (hd : dcd m pc .irem nx tg) (h : 0 ≤ x ∧ 0 < y) (k : bB m nx ls (uI (x % y) :: r) M Q) : bB m pc ls (uI y :: uI x :: r) M Q := by
  refine b_irem hd (by omega) ?_
  rw [Int.tmod_eq_emod_of_nonneg h.1]
  exact k
theorem b_ldivP {x y : Int} (hd : dcd m pc .ldiv nx tg) (h : (0 ≤ x ∧ x < 9223372036854775808) ∧ 0 < y) (k : bB m nx ls (uJ (x / y) :: r) M Q) : bB m pc ls (uJ y :: uJ x :: r) M Q := by
  refine b_ldiv hd (by omega) ?_
  have h1 : x / y ≤ x := Int.ediv_le_self y h.1.1
  have h2 : 0 ≤ x / y := Int.ediv_nonneg h.1.1 (by omega)
  rw [Int.tdiv_eq_ediv_of_nonneg h.1.1, dsw64_r (by omega)]
  exact k
theorem b_lremP {x y : Int} (hd : dcd m pc .lrem nx tg) (h : 0 ≤ x ∧ 0 < y) (k : bB m nx ls (uJ (x % y) :: r) M Q) : bB m pc ls (uJ y :: uJ x :: r) M Q := by
  refine b_lrem hd (by omega) ?_
  rw [Int.tmod_eq_emod_of_nonneg h.1]
  exact k
end BRules2
