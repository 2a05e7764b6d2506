/-! more rules of machine B: division of what is not below 0 -/
theorem ds_get_ne {M : dsMem} {a i v b j : Int} (h : b ≠ a) : dsSet M a i v b j = M b j := by rw [dsSet_ne h]
theorem ds_get_ni {M : dsMem} {a i v j : Int} (h : j ≠ i) : dsSet M a i v a j = M a j := by rw [dsSet_at, if_neg h]
theorem ds_get_eq {M : dsMem} {a i v : Int} : dsSet M a i v a i = v := by rw [dsSet_at, if_pos rfl]
theorem dsw_b {x n : Int} (h : 0 ≤ x ∧ x < n) (hn : n ≤ 2147483648) : dsw x = x := dsw_id (by omega) (by omega)
def bCc (m t n k : Nat) : Bool := decide (dsRk t < dsRk m ∧ dsMc t = 0 ∧ dsMs t = 0) && (Nat.ble n 8 && Nat.ble k (dsMx t))
theorem bCk_mk {m t n k : Nat} {rest as : List dsU} (h : bCc m t n k = true) (h1 : bCs rest = n) (h2 : (bFl as).length = k) : bCk m t rest as = true := by
  unfold bCk; rw [h1, h2]; exact h
section BRules2
variable {m pc nx tg : Nat} {ls r st : List dsU} {M : dsMem} {Q : bQT}
theorem b_idivP {x y : Int} (hd : dcd m pc .idiv nx tg) (h : (0 ≤ x ∧ x < 2147483648) ∧ 0 < y) (k : bB m nx ls (uI (x / y) :: r) M Q) : bB m pc ls (uI y :: uI x :: r) M Q := by
  refine b_idiv hd (by omega) ?_
  have h1 : x / y ≤ x := Int.ediv_le_self y h.1.1
  have h2 : 0 ≤ x / y := Int.ediv_nonneg h.1.1 (by omega)
  rw [Int.tdiv_eq_ediv_of_nonneg h.1.1, dsw_r (by omega)]
  exact k
theorem b_iremP {x y : Int} (hd : dcd m pc .irem nx tg) (h : 0 ≤ x ∧ 0 < y) (k : bB m nx ls (uI (x % y) :: r) M Q) : bB m pc ls (uI y :: uI x :: r) M Q := by
  refine b_irem hd (by omega) ?_
  rw [Int.tmod_eq_emod_of_nonneg h.1]
  exact k
theorem b_ldivP {x y : Int} (hd : dcd m pc .ldiv nx tg) (h : (0 ≤ x ∧ x < 9223372036854775808) ∧ 0 < y) (k : bB m nx ls (uJ (x / y) :: r) M Q) : bB m pc ls (uJ y :: uJ x :: r) M Q := by
  refine b_ldiv hd (by omega) ?_
  have h1 : x / y ≤ x := Int.ediv_le_self y h.1.1
  have h2 : 0 ≤ x / y := Int.ediv_nonneg h.1.1 (by omega)
  rw [Int.tdiv_eq_ediv_of_nonneg h.1.1, dsw64_r (by omega)]
  exact k
theorem b_lremP {x y : Int} (hd : dcd m pc .lrem nx tg) (h : 0 ≤ x ∧ 0 < y) (k : bB m nx ls (uJ (x % y) :: r) M Q) : bB m pc ls (uJ y :: uJ x :: r) M Q := by
  refine b_lrem hd (by omega) ?_
  rw [Int.tmod_eq_emod_of_nonneg h.1]
  exact k
theorem b_ifeqP {p : Prop} [Decidable p] {off : Int} (hd : dcd m pc (.ifCond .eq off) nx tg) (kt : (¬ p) → bB m tg ls r M Q) (kf : p → bB m nx ls r M Q) : bB m pc ls (uI (if p then 1 else 0) :: r) M Q :=
  b_if_eq hd (fun c => kt (fun q => by rw [if_pos q] at c; omega)) (fun c => kf (by by_cases q : p; exact q; rw [if_neg q] at c; omega))
theorem b_ifneP {p : Prop} [Decidable p] {off : Int} (hd : dcd m pc (.ifCond .ne off) nx tg) (kt : p → bB m tg ls r M Q) (kf : (¬ p) → bB m nx ls r M Q) : bB m pc ls (uI (if p then 1 else 0) :: r) M Q :=
  b_if_ne hd (fun c => kt (by by_cases q : p; exact q; rw [if_neg q] at c; omega)) (fun c => kf (fun q => by rw [if_pos q] at c; omega))
theorem b_01 (p : Prop) [Decidable p] : (if p then (1 : Int) else 0) = 0 ∨ (if p then (1 : Int) else 0) = 1 := by
  by_cases q : p
  · rw [if_pos q]; exact Or.inr rfl
  · rw [if_neg q]; exact Or.inl rfl
theorem b_lif_eq {x y off : Int} (hd : dcd m pc (.ifCond .eq off) nx tg) (kt : x = y → bB m tg ls r M Q) (kf : ¬ x = y → bB m nx ls r M Q) : bB m pc ls (uI (dsLc x y) :: r) M Q :=
  b_if_eq hd (fun c => kt (by unfold dsLc at c; (repeat' split at c) <;> omega)) (fun c => kf (by unfold dsLc at c; (repeat' split at c) <;> omega))
theorem b_lif_ne {x y off : Int} (hd : dcd m pc (.ifCond .ne off) nx tg) (kt : ¬ x = y → bB m tg ls r M Q) (kf : x = y → bB m nx ls r M Q) : bB m pc ls (uI (dsLc x y) :: r) M Q :=
  b_if_ne hd (fun c => kt (by unfold dsLc at c; (repeat' split at c) <;> omega)) (fun c => kf (by unfold dsLc at c; (repeat' split at c) <;> omega))
theorem b_lif_lt {x y off : Int} (hd : dcd m pc (.ifCond .lt off) nx tg) (kt : x < y → bB m tg ls r M Q) (kf : ¬ x < y → bB m nx ls r M Q) : bB m pc ls (uI (dsLc x y) :: r) M Q :=
  b_if_lt hd (fun c => kt (by unfold dsLc at c; (repeat' split at c) <;> omega)) (fun c => kf (by unfold dsLc at c; (repeat' split at c) <;> omega))
theorem b_lif_ge {x y off : Int} (hd : dcd m pc (.ifCond .ge off) nx tg) (kt : y ≤ x → bB m tg ls r M Q) (kf : ¬ y ≤ x → bB m nx ls r M Q) : bB m pc ls (uI (dsLc x y) :: r) M Q :=
  b_if_ge hd (fun c => kt (by unfold dsLc at c; (repeat' split at c) <;> omega)) (fun c => kf (by unfold dsLc at c; (repeat' split at c) <;> omega))
theorem b_lif_gt {x y off : Int} (hd : dcd m pc (.ifCond .gt off) nx tg) (kt : y < x → bB m tg ls r M Q) (kf : ¬ y < x → bB m nx ls r M Q) : bB m pc ls (uI (dsLc x y) :: r) M Q :=
  b_if_gt hd (fun c => kt (by unfold dsLc at c; (repeat' split at c) <;> omega)) (fun c => kf (by unfold dsLc at c; (repeat' split at c) <;> omega))
theorem b_lif_le {x y off : Int} (hd : dcd m pc (.ifCond .le off) nx tg) (kt : x ≤ y → bB m tg ls r M Q) (kf : ¬ x ≤ y → bB m nx ls r M Q) : bB m pc ls (uI (dsLc x y) :: r) M Q :=
  b_if_le hd (fun c => kt (by unfold dsLc at c; (repeat' split at c) <;> omega)) (fun c => kf (by unfold dsLc at c; (repeat' split at c) <;> omega))
end BRules2
