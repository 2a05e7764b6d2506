/-! what holds at the law's entry -/
def evI : List Nat := [47, 80, 88, 93, 60, 107, 109, 65, 118, 120, 122, 70, 141, 143, 75]
def evT (k : Nat) : Term := Term.string RX6 (evI.getD k 0)
theorem ev_ex : ∀ k, k < 15 → Cond.exactly (evT k) "java/lang/String" ∈ flatC (Jvm.Cond.and given_1 narrow_1)
  | 0, _ => List.mem_of_getElem? (i := 29) (by decide +kernel)
  | 1, _ => List.mem_of_getElem? (i := 38) (by decide +kernel)
  | 2, _ => List.mem_of_getElem? (i := 47) (by decide +kernel)
  | 3, _ => List.mem_of_getElem? (i := 54) (by decide +kernel)
  | 4, _ => List.mem_of_getElem? (i := 62) (by decide +kernel)
  | 5, _ => List.mem_of_getElem? (i := 70) (by decide +kernel)
  | 6, _ => List.mem_of_getElem? (i := 79) (by decide +kernel)
  | 7, _ => List.mem_of_getElem? (i := 88) (by decide +kernel)
  | 8, _ => List.mem_of_getElem? (i := 97) (by decide +kernel)
  | 9, _ => List.mem_of_getElem? (i := 105) (by decide +kernel)
  | 10, _ => List.mem_of_getElem? (i := 113) (by decide +kernel)
  | 11, _ => List.mem_of_getElem? (i := 119) (by decide +kernel)
  | 12, _ => List.mem_of_getElem? (i := 127) (by decide +kernel)
  | 13, _ => List.mem_of_getElem? (i := 133) (by decide +kernel)
  | 14, _ => List.mem_of_getElem? (i := 139) (by decide +kernel)
  | k + 15, h => absurd h (by omega)
theorem ev_co : ∀ k, k < 15 → Cond.eq (.field (evT k) "java/lang/String" "coder" "B") (.int 0) ∈ flatC (Jvm.Cond.and given_1 narrow_1)
  | 0, _ => List.mem_of_getElem? (i := 30) (by decide +kernel)
  | 1, _ => List.mem_of_getElem? (i := 39) (by decide +kernel)
  | 2, _ => List.mem_of_getElem? (i := 48) (by decide +kernel)
  | 3, _ => List.mem_of_getElem? (i := 55) (by decide +kernel)
  | 4, _ => List.mem_of_getElem? (i := 63) (by decide +kernel)
  | 5, _ => List.mem_of_getElem? (i := 71) (by decide +kernel)
  | 6, _ => List.mem_of_getElem? (i := 80) (by decide +kernel)
  | 7, _ => List.mem_of_getElem? (i := 89) (by decide +kernel)
  | 8, _ => List.mem_of_getElem? (i := 98) (by decide +kernel)
  | 9, _ => List.mem_of_getElem? (i := 106) (by decide +kernel)
  | 10, _ => List.mem_of_getElem? (i := 114) (by decide +kernel)
  | 11, _ => List.mem_of_getElem? (i := 120) (by decide +kernel)
  | 12, _ => List.mem_of_getElem? (i := 128) (by decide +kernel)
  | 13, _ => List.mem_of_getElem? (i := 134) (by decide +kernel)
  | 14, _ => List.mem_of_getElem? (i := 140) (by decide +kernel)
  | k + 15, h => absurd h (by omega)
theorem ev_ar : ∀ k, k < 15 → Cond.arrayOf (.field (evT k) "java/lang/String" "value" "[B") .byte ∈ flatC (Jvm.Cond.and given_1 narrow_1)
  | 0, _ => List.mem_of_getElem? (i := 31) (by decide +kernel)
  | 1, _ => List.mem_of_getElem? (i := 40) (by decide +kernel)
  | 2, _ => List.mem_of_getElem? (i := 49) (by decide +kernel)
  | 3, _ => List.mem_of_getElem? (i := 56) (by decide +kernel)
  | 4, _ => List.mem_of_getElem? (i := 64) (by decide +kernel)
  | 5, _ => List.mem_of_getElem? (i := 72) (by decide +kernel)
  | 6, _ => List.mem_of_getElem? (i := 81) (by decide +kernel)
  | 7, _ => List.mem_of_getElem? (i := 90) (by decide +kernel)
  | 8, _ => List.mem_of_getElem? (i := 99) (by decide +kernel)
  | 9, _ => List.mem_of_getElem? (i := 107) (by decide +kernel)
  | 10, _ => List.mem_of_getElem? (i := 115) (by decide +kernel)
  | 11, _ => List.mem_of_getElem? (i := 121) (by decide +kernel)
  | 12, _ => List.mem_of_getElem? (i := 129) (by decide +kernel)
  | 13, _ => List.mem_of_getElem? (i := 135) (by decide +kernel)
  | 14, _ => List.mem_of_getElem? (i := 141) (by decide +kernel)
  | k + 15, h => absurd h (by omega)
theorem ev_le : ∀ k, k < 15 → Cond.eq (.length (.field (evT k) "java/lang/String" "value" "[B")) (.int (Int32.ofNat (dsSl.getD k 0))) ∈ flatC (Jvm.Cond.and given_1 narrow_1)
  | 0, _ => List.mem_of_getElem? (i := 32) (by decide +kernel)
  | 1, _ => List.mem_of_getElem? (i := 41) (by decide +kernel)
  | 2, _ => List.mem_of_getElem? (i := 50) (by decide +kernel)
  | 3, _ => List.mem_of_getElem? (i := 57) (by decide +kernel)
  | 4, _ => List.mem_of_getElem? (i := 65) (by decide +kernel)
  | 5, _ => List.mem_of_getElem? (i := 73) (by decide +kernel)
  | 6, _ => List.mem_of_getElem? (i := 82) (by decide +kernel)
  | 7, _ => List.mem_of_getElem? (i := 91) (by decide +kernel)
  | 8, _ => List.mem_of_getElem? (i := 100) (by decide +kernel)
  | 9, _ => List.mem_of_getElem? (i := 108) (by decide +kernel)
  | 10, _ => List.mem_of_getElem? (i := 116) (by decide +kernel)
  | 11, _ => List.mem_of_getElem? (i := 122) (by decide +kernel)
  | 12, _ => List.mem_of_getElem? (i := 130) (by decide +kernel)
  | 13, _ => List.mem_of_getElem? (i := 136) (by decide +kernel)
  | 14, _ => List.mem_of_getElem? (i := 142) (by decide +kernel)
  | k + 15, h => absurd h (by omega)
theorem ev_el0 : ∀ j, j < 5 → Cond.eq (.elem (.field (evT 0) "java/lang/String" "value" "[B") (.int (Int32.ofNat j))) (.int ((dsSb.getD 0 []).getD j 0)) ∈ flatC (Jvm.Cond.and given_1 narrow_1)
  | 0, _ => List.mem_of_getElem? (i := 33) (by decide +kernel)
  | 1, _ => List.mem_of_getElem? (i := 34) (by decide +kernel)
  | 2, _ => List.mem_of_getElem? (i := 35) (by decide +kernel)
  | 3, _ => List.mem_of_getElem? (i := 36) (by decide +kernel)
  | 4, _ => List.mem_of_getElem? (i := 37) (by decide +kernel)
  | j + 5, h => absurd h (by omega)
theorem ev_el1 : ∀ j, j < 5 → Cond.eq (.elem (.field (evT 1) "java/lang/String" "value" "[B") (.int (Int32.ofNat j))) (.int ((dsSb.getD 1 []).getD j 0)) ∈ flatC (Jvm.Cond.and given_1 narrow_1)
  | 0, _ => List.mem_of_getElem? (i := 42) (by decide +kernel)
  | 1, _ => List.mem_of_getElem? (i := 43) (by decide +kernel)
  | 2, _ => List.mem_of_getElem? (i := 44) (by decide +kernel)
  | 3, _ => List.mem_of_getElem? (i := 45) (by decide +kernel)
  | 4, _ => List.mem_of_getElem? (i := 46) (by decide +kernel)
  | j + 5, h => absurd h (by omega)
theorem ev_el2 : ∀ j, j < 3 → Cond.eq (.elem (.field (evT 2) "java/lang/String" "value" "[B") (.int (Int32.ofNat j))) (.int ((dsSb.getD 2 []).getD j 0)) ∈ flatC (Jvm.Cond.and given_1 narrow_1)
  | 0, _ => List.mem_of_getElem? (i := 51) (by decide +kernel)
  | 1, _ => List.mem_of_getElem? (i := 52) (by decide +kernel)
  | 2, _ => List.mem_of_getElem? (i := 53) (by decide +kernel)
  | j + 3, h => absurd h (by omega)
theorem ev_el3 : ∀ j, j < 4 → Cond.eq (.elem (.field (evT 3) "java/lang/String" "value" "[B") (.int (Int32.ofNat j))) (.int ((dsSb.getD 3 []).getD j 0)) ∈ flatC (Jvm.Cond.and given_1 narrow_1)
  | 0, _ => List.mem_of_getElem? (i := 58) (by decide +kernel)
  | 1, _ => List.mem_of_getElem? (i := 59) (by decide +kernel)
  | 2, _ => List.mem_of_getElem? (i := 60) (by decide +kernel)
  | 3, _ => List.mem_of_getElem? (i := 61) (by decide +kernel)
  | j + 4, h => absurd h (by omega)
theorem ev_el4 : ∀ j, j < 4 → Cond.eq (.elem (.field (evT 4) "java/lang/String" "value" "[B") (.int (Int32.ofNat j))) (.int ((dsSb.getD 4 []).getD j 0)) ∈ flatC (Jvm.Cond.and given_1 narrow_1)
  | 0, _ => List.mem_of_getElem? (i := 66) (by decide +kernel)
  | 1, _ => List.mem_of_getElem? (i := 67) (by decide +kernel)
  | 2, _ => List.mem_of_getElem? (i := 68) (by decide +kernel)
  | 3, _ => List.mem_of_getElem? (i := 69) (by decide +kernel)
  | j + 4, h => absurd h (by omega)
theorem ev_el5 : ∀ j, j < 5 → Cond.eq (.elem (.field (evT 5) "java/lang/String" "value" "[B") (.int (Int32.ofNat j))) (.int ((dsSb.getD 5 []).getD j 0)) ∈ flatC (Jvm.Cond.and given_1 narrow_1)
  | 0, _ => List.mem_of_getElem? (i := 74) (by decide +kernel)
  | 1, _ => List.mem_of_getElem? (i := 75) (by decide +kernel)
  | 2, _ => List.mem_of_getElem? (i := 76) (by decide +kernel)
  | 3, _ => List.mem_of_getElem? (i := 77) (by decide +kernel)
  | 4, _ => List.mem_of_getElem? (i := 78) (by decide +kernel)
  | j + 5, h => absurd h (by omega)
theorem ev_el6 : ∀ j, j < 5 → Cond.eq (.elem (.field (evT 6) "java/lang/String" "value" "[B") (.int (Int32.ofNat j))) (.int ((dsSb.getD 6 []).getD j 0)) ∈ flatC (Jvm.Cond.and given_1 narrow_1)
  | 0, _ => List.mem_of_getElem? (i := 83) (by decide +kernel)
  | 1, _ => List.mem_of_getElem? (i := 84) (by decide +kernel)
  | 2, _ => List.mem_of_getElem? (i := 85) (by decide +kernel)
  | 3, _ => List.mem_of_getElem? (i := 86) (by decide +kernel)
  | 4, _ => List.mem_of_getElem? (i := 87) (by decide +kernel)
  | j + 5, h => absurd h (by omega)
theorem ev_el7 : ∀ j, j < 5 → Cond.eq (.elem (.field (evT 7) "java/lang/String" "value" "[B") (.int (Int32.ofNat j))) (.int ((dsSb.getD 7 []).getD j 0)) ∈ flatC (Jvm.Cond.and given_1 narrow_1)
  | 0, _ => List.mem_of_getElem? (i := 92) (by decide +kernel)
  | 1, _ => List.mem_of_getElem? (i := 93) (by decide +kernel)
  | 2, _ => List.mem_of_getElem? (i := 94) (by decide +kernel)
  | 3, _ => List.mem_of_getElem? (i := 95) (by decide +kernel)
  | 4, _ => List.mem_of_getElem? (i := 96) (by decide +kernel)
  | j + 5, h => absurd h (by omega)
theorem ev_el8 : ∀ j, j < 4 → Cond.eq (.elem (.field (evT 8) "java/lang/String" "value" "[B") (.int (Int32.ofNat j))) (.int ((dsSb.getD 8 []).getD j 0)) ∈ flatC (Jvm.Cond.and given_1 narrow_1)
  | 0, _ => List.mem_of_getElem? (i := 101) (by decide +kernel)
  | 1, _ => List.mem_of_getElem? (i := 102) (by decide +kernel)
  | 2, _ => List.mem_of_getElem? (i := 103) (by decide +kernel)
  | 3, _ => List.mem_of_getElem? (i := 104) (by decide +kernel)
  | j + 4, h => absurd h (by omega)
theorem ev_el9 : ∀ j, j < 4 → Cond.eq (.elem (.field (evT 9) "java/lang/String" "value" "[B") (.int (Int32.ofNat j))) (.int ((dsSb.getD 9 []).getD j 0)) ∈ flatC (Jvm.Cond.and given_1 narrow_1)
  | 0, _ => List.mem_of_getElem? (i := 109) (by decide +kernel)
  | 1, _ => List.mem_of_getElem? (i := 110) (by decide +kernel)
  | 2, _ => List.mem_of_getElem? (i := 111) (by decide +kernel)
  | 3, _ => List.mem_of_getElem? (i := 112) (by decide +kernel)
  | j + 4, h => absurd h (by omega)
theorem ev_el10 : ∀ j, j < 2 → Cond.eq (.elem (.field (evT 10) "java/lang/String" "value" "[B") (.int (Int32.ofNat j))) (.int ((dsSb.getD 10 []).getD j 0)) ∈ flatC (Jvm.Cond.and given_1 narrow_1)
  | 0, _ => List.mem_of_getElem? (i := 117) (by decide +kernel)
  | 1, _ => List.mem_of_getElem? (i := 118) (by decide +kernel)
  | j + 2, h => absurd h (by omega)
theorem ev_el11 : ∀ j, j < 4 → Cond.eq (.elem (.field (evT 11) "java/lang/String" "value" "[B") (.int (Int32.ofNat j))) (.int ((dsSb.getD 11 []).getD j 0)) ∈ flatC (Jvm.Cond.and given_1 narrow_1)
  | 0, _ => List.mem_of_getElem? (i := 123) (by decide +kernel)
  | 1, _ => List.mem_of_getElem? (i := 124) (by decide +kernel)
  | 2, _ => List.mem_of_getElem? (i := 125) (by decide +kernel)
  | 3, _ => List.mem_of_getElem? (i := 126) (by decide +kernel)
  | j + 4, h => absurd h (by omega)
theorem ev_el12 : ∀ j, j < 2 → Cond.eq (.elem (.field (evT 12) "java/lang/String" "value" "[B") (.int (Int32.ofNat j))) (.int ((dsSb.getD 12 []).getD j 0)) ∈ flatC (Jvm.Cond.and given_1 narrow_1)
  | 0, _ => List.mem_of_getElem? (i := 131) (by decide +kernel)
  | 1, _ => List.mem_of_getElem? (i := 132) (by decide +kernel)
  | j + 2, h => absurd h (by omega)
theorem ev_el13 : ∀ j, j < 2 → Cond.eq (.elem (.field (evT 13) "java/lang/String" "value" "[B") (.int (Int32.ofNat j))) (.int ((dsSb.getD 13 []).getD j 0)) ∈ flatC (Jvm.Cond.and given_1 narrow_1)
  | 0, _ => List.mem_of_getElem? (i := 137) (by decide +kernel)
  | 1, _ => List.mem_of_getElem? (i := 138) (by decide +kernel)
  | j + 2, h => absurd h (by omega)
theorem ev_el14 : ∀ j, j < 3 → Cond.eq (.elem (.field (evT 14) "java/lang/String" "value" "[B") (.int (Int32.ofNat j))) (.int ((dsSb.getD 14 []).getD j 0)) ∈ flatC (Jvm.Cond.and given_1 narrow_1)
  | 0, _ => List.mem_of_getElem? (i := 143) (by decide +kernel)
  | 1, _ => List.mem_of_getElem? (i := 144) (by decide +kernel)
  | 2, _ => List.mem_of_getElem? (i := 145) (by decide +kernel)
  | j + 3, h => absurd h (by omega)
theorem ev_el : ∀ k, k < 15 → ∀ j, j < dsSl.getD k 0 → Cond.eq (.elem (.field (evT k) "java/lang/String" "value" "[B") (.int (Int32.ofNat j))) (.int ((dsSb.getD k []).getD j 0)) ∈ flatC (Jvm.Cond.and given_1 narrow_1)
  | 0, _ => ev_el0
  | 1, _ => ev_el1
  | 2, _ => ev_el2
  | 3, _ => ev_el3
  | 4, _ => ev_el4
  | 5, _ => ev_el5
  | 6, _ => ev_el6
  | 7, _ => ev_el7
  | 8, _ => ev_el8
  | 9, _ => ev_el9
  | 10, _ => ev_el10
  | 11, _ => ev_el11
  | 12, _ => ev_el12
  | 13, _ => ev_el13
  | 14, _ => ev_el14
  | k + 15, h => absurd h (by omega)
def evJ : List Nat := [208, 210, 215, 217, 232, 219, 221, 234, 223, 225, 227, 236, 229, 231, 238]
theorem ev_eq : ∀ k, k < 15 → Cond.eq (evT k) (Term.string RX9 (evJ.getD k 0)) ∈ flatC (Jvm.Cond.and given_1 narrow_1)
  | 0, _ => List.mem_of_getElem? (i := 155) (by decide +kernel)
  | 1, _ => List.mem_of_getElem? (i := 165) (by decide +kernel)
  | 2, _ => List.mem_of_getElem? (i := 173) (by decide +kernel)
  | 3, _ => List.mem_of_getElem? (i := 182) (by decide +kernel)
  | 4, _ => List.mem_of_getElem? (i := 191) (by decide +kernel)
  | 5, _ => List.mem_of_getElem? (i := 228) (by decide +kernel)
  | 6, _ => List.mem_of_getElem? (i := 238) (by decide +kernel)
  | 7, _ => List.mem_of_getElem? (i := 201) (by decide +kernel)
  | 8, _ => List.mem_of_getElem? (i := 247) (by decide +kernel)
  | 9, _ => List.mem_of_getElem? (i := 256) (by decide +kernel)
  | 10, _ => List.mem_of_getElem? (i := 263) (by decide +kernel)
  | 11, _ => List.mem_of_getElem? (i := 210) (by decide +kernel)
  | 12, _ => List.mem_of_getElem? (i := 270) (by decide +kernel)
  | 13, _ => List.mem_of_getElem? (i := 277) (by decide +kernel)
  | 14, _ => List.mem_of_getElem? (i := 218) (by decide +kernel)
  | k + 15, h => absurd h (by omega)
theorem ev_cs : Cond.eq (.static "java/lang/String" "COMPACT_STRINGS" "Z") (.int 1) ∈ flatC (Jvm.Cond.and given_1 narrow_1) := List.mem_of_getElem? (i := 4) (by decide +kernel)
theorem ev_sf : Cond.isRef (.static "jdk/internal/util/Preconditions" "SIOOBE_FORMATTER" "Ljava/util/function/BiFunction;") ∈ flatC (Jvm.Cond.and given_1 narrow_1) := List.mem_of_getElem? (i := 5) (by decide +kernel)
theorem ev_r6 : ∀ k, k < 15 → Cond.stringRef RX6 (evI.getD k 0) ((dsTX[k]?.getD ("", [])).1) ∈ tables_1
  | 0, _ => (dsT2l (j := 178) rfl)
  | 1, _ => (dsT2l (j := 239) rfl)
  | 2, _ => (dsT3l (j := 9) rfl)
  | 3, _ => (dsT3l (j := 10) rfl)
  | 4, _ => (dsT3l (j := 15) rfl)
  | 5, _ => (dsT3l (j := 24) rfl)
  | 6, _ => (dsT3l (j := 25) rfl)
  | 7, _ => (dsT3l (j := 30) rfl)
  | 8, _ => (dsT3l (j := 35) rfl)
  | 9, _ => (dsT3l (j := 36) rfl)
  | 10, _ => (dsT3l (j := 37) rfl)
  | 11, _ => (dsT3l (j := 42) rfl)
  | 12, _ => (dsT3l (j := 51) rfl)
  | 13, _ => (dsT3l (j := 52) rfl)
  | 14, _ => (dsT3l (j := 58) rfl)
  | k + 15, h => absurd h (by omega)
theorem ev_r9 : ∀ k, k < 15 → Cond.stringRef RX9 (evJ.getD k 0) ((dsTX[k]?.getD ("", [])).1) ∈ tables_1
  | 0, _ => (dsT6l (j := 179) rfl)
  | 1, _ => (dsT6l (j := 198) rfl)
  | 2, _ => (dsT6l (j := 207) rfl)
  | 3, _ => (dsT6l (j := 208) rfl)
  | 4, _ => (dsT6l (j := 213) rfl)
  | 5, _ => (dsT6l (j := 225) rfl)
  | 6, _ => (dsT6l (j := 226) rfl)
  | 7, _ => (dsT6l (j := 214) rfl)
  | 8, _ => (dsT6l (j := 231) rfl)
  | 9, _ => (dsT6l (j := 232) rfl)
  | 10, _ => (dsT6l (j := 233) rfl)
  | 11, _ => (dsT6l (j := 215) rfl)
  | 12, _ => (dsT6l (j := 238) rfl)
  | 13, _ => (dsT6l (j := 239) rfl)
  | 14, _ => (dsT6l (j := 216) rfl)
  | k + 15, h => absurd h (by omega)
theorem ev_k6 : ∀ e ∈ dsKS 6, e.2.1 < 15 ∧ evI.getD e.2.1 0 = e.1 := by decide +kernel
theorem ev_k9 : ∀ e ∈ dsKS 9, e.2.1 < 15 ∧ evJ.getD e.2.1 0 = e.1 := by decide +kernel
theorem ev_dist : ∀ i, i < 15 → ∀ j, j < 15 → (dsSl.getD i 0 = dsSl.getD j 0 → (∀ p, p < dsSl.getD i 0 → (dsSb.getD i []).getD p 0 = (dsSb.getD j []).getD p 0) → i = j) := by decide +kernel
theorem ev_ofn : ∀ a, a < 11 → ∀ b, b < 11 → (Int32.ofNat a = Int32.ofNat b → a = b) := by decide +kernel
theorem ev_inj {A : Nat → Prop} {s : State} {adK adV : Nat → Nat} (h : ∀ k : Nat, k < 15 → va_O "java/lang/String" (adK k) A s s.heap ∧ va_OF "java/lang/String" "coder" "B" (.int 0) (adK k) A s s.heap ∧ va_OF "java/lang/String" "value" "[B" (.ref (adV k)) (adK k) A s s.heap ∧ va_T .byte (adV k) (dsSl.getD k 0) (fun j => .int ((dsSb.getD k []).getD j 0)) A s s.heap) :
    ∀ i j : Nat, i < 15 → j < 15 → adK i = adK j → i = j := by
  intro i j hi hj e
  obtain ⟨cf, k, fi, f, cell, a1, a2, a3, a4, a5, a6⟩ := (h i hi).2.2.1
  obtain ⟨cf', k', fi', f', cell', b1, b2, b3, b4, b5, b6⟩ := (h j hj).2.2.1
  rw [a1] at b1
  cases b1
  rw [e, b3] at a3
  cases a3
  rw [b5] at a5
  have ev : adV j = adV i := by
    have := Option.some.inj a5
    injection this
  obtain ⟨c1, p1, p2, p3, p4, p5, p6, p7⟩ := (h i hi).2.2.2
  obtain ⟨c2, q1, q2, q3, q4, q5, q6, q7⟩ := (h j hj).2.2.2
  rw [ev, p1] at q1
  cases q1
  have li := (ss_f1 i hi).2.2.2
  have lj := (ss_f1 j hj).2.2.2
  have hl : dsSl.getD i 0 = dsSl.getD j 0 := ev_ofn _ (by omega) _ (by omega) (p5.symm.trans q5)
  refine ev_dist i hi j hj hl (fun p hp => ?_)
  have z1 := p6 p hp
  have z2 := q6 p (by omega)
  rw [z1] at z2
  have := Option.some.inj z2
  injection this
theorem ev_arr {args : Array Value} {s : State} {ty : FieldType} (h : (Cond.arrayClass ty).before args s = true) : ∃ cA : ClassId, ArrOfT s cA ty ∧ s.vm.findClass ("[" ++ ty.toString) = some cA := by
  obtain ⟨c, k, comp, h1, h2, h3⟩ := Cond.arrayClass_spec h
  exact ⟨c, fun n z => ⟨fun k h => (by cases h), k, h2, comp, h3⟩, h1⟩
theorem ev_arrO {args : Array Value} {s : State} {C : String} (h : (Cond.arrayOver (.object C)).before args s = true) : ∃ cA : ClassId, ArrOfT s cA (.object C) ∧ va_RA s cA (.object C) := by
  obtain ⟨comp, c, k, g1, g2, g3, g4, g5⟩ := Cond.arrayOver_spec h
  exact ⟨c, fun n z => ⟨fun k h => (by cases h), k, g3, comp, g4⟩, k, comp, g3, g4, g1, g5⟩
theorem ev_ao7 : Cond.arrayOver (.object RX7) ∈ tables_1 := (dsT1l (j := 175) rfl)
theorem ev_ao5 : Cond.arrayOver (.object RX5) ∈ tables_1 := (dsT1l (j := 177) rfl)
theorem ev_ls1 : Cond.laysStatic "java/lang/String" "COMPACT_STRINGS" "Z" ∈ tables_1 := (dsT2l (j := 192) rfl)
theorem ev_ls2 : Cond.laysStatic "jdk/internal/util/Preconditions" "SIOOBE_FORMATTER" "Ljava/util/function/BiFunction;" ∈ tables_1 := (dsT2l (j := 208) rfl)
theorem ev_strs {args : Array Value} {s : State} (hs : ∀ c ∈ flatC (Jvm.Cond.and given_1 narrow_1), c.before args s = true) : ∃ adK adV : Nat → Nat, vk_S 15 dsSl dsSb adK adV (fun q => s.heap.size ≤ q) s s.heap ∧ ∀ k, k < 15 → (evT k).eval args s none [] s = some (.ref (adK k)) := by
  have h0 : ∀ k : Nat, ∃ q : Nat × Nat, k < 15 → (va_O "java/lang/String" q.1 (fun q => s.heap.size ≤ q) s s.heap ∧ va_OF "java/lang/String" "coder" "B" (.int 0) q.1 (fun q => s.heap.size ≤ q) s s.heap ∧ va_OF "java/lang/String" "value" "[B" (.ref q.2) q.1 (fun q => s.heap.size ≤ q) s s.heap ∧ va_T .byte q.2 (dsSl.getD k 0) (fun j => .int ((dsSb.getD k []).getD j 0)) (fun q => s.heap.size ≤ q) s s.heap) ∧ (evT k).eval args s none [] s = some (.ref q.1) := by
    intro k
    by_cases hk : k < 15
    · have hlen := (ss_f1 k hk).2.2.2
      obtain ⟨adK, adV, hS, he⟩ := vk_Sof (args := args) (s := s) (N := 1) (tm := fun _ => evT k) (len := [dsSl.getD k 0]) (byt := [dsSb.getD k []]) (A := fun q => s.heap.size ≤ q)
        (fun i hi => by obtain rfl : i = 0 := by omega
                        show dsSl.getD k 0 < 2 ^ 31
                        omega)
        (fun i hi => hs _ (ev_ex k hk)) (fun i hi => hs _ (ev_co k hk)) (fun i hi => hs _ (ev_ar k hk))
        (fun i hi => by obtain rfl : i = 0 := by omega
                        exact hs _ (ev_le k hk))
        (fun i hi j hj => by obtain rfl : i = 0 := by omega
                             exact hs _ (ev_el k hk j hj))
        (fun i j hi hj hne => absurd (show i = j by omega) hne) (fun a ha => by show ¬ s.heap.size ≤ a; omega)
      exact ⟨(adK 0, adV 0), fun _ => ⟨hS.1 0 (by omega), he 0 (by omega)⟩⟩
    · exact ⟨(0, 0), fun h => absurd h hk⟩
  obtain ⟨ad, had⟩ := Classical.axiomOfChoice h0
  exact ⟨fun k => (ad k).1, fun k => (ad k).2, ⟨fun k hk => (had k hk).1, ev_inj (fun k hk => (had k hk).1)⟩, fun k hk => (had k hk).2⟩
theorem ev_all {args : Array Value} {s : State} {b L : Nat} {xs : Nat → Int32} (hs : ∀ c ∈ flatC (Jvm.Cond.and given_1 narrow_1), c.before args s = true) (hts : ∀ w ∈ lw_tbl, w.before args s = true) (hX : va_X b L xs s s.heap) (hbl : b < s.heap.size) : ∃ E : dsE, eB E = s.heap.size ∧ eS E = b ∧ eL E = L ∧ eX E = xs ∧ dsEv E s := by
  have ht1 : ∀ w ∈ tables_1, w.before args s = true := fun w hw => hts w (List.mem_append_right _ hw)
  have ht2 : ∀ w ∈ dsTS, w.before args s = true := fun w hw => hts w (List.mem_filter.mp hw).1
  obtain ⟨adK, adV, hstr, hev⟩ := ev_strs hs
  have hK0 : ∀ c : Nat, ∃ q : ClassId × (Nat → Nat), c < 10 → u_Kn s (dsR c) (dsT c) (dsN c) q.1 q.2 := by
    intro c
    by_cases hc : c < 10
    · obtain ⟨cC, iS, h⟩ := u_known (C := dsR c) (T := dsT c) (N := dsN c) (n := dsN c) ht2 (dsLay hc) (ht2 _ (dsInst hc).1)
      exact ⟨(cC, iS), fun _ => h⟩
    · exact ⟨((0 : Nat), fun _ => 0), fun h => absurd h hc⟩
  obtain ⟨D, hD⟩ := Classical.axiomOfChoice hK0
  obtain ⟨c0, f0, g0⟩ := ev_arr (ht2 _ dsArr_int)
  obtain ⟨c1, f1, g1⟩ := ev_arr (ht2 _ dsArr_byte)
  obtain ⟨c2, f2, g2⟩ := ev_arr (ht2 _ dsArr_boolean)
  obtain ⟨c3, f3, g3⟩ := ev_arr (ht2 _ dsArr_long)
  obtain ⟨c4, f4, g4⟩ := ev_arrO (ht1 _ ev_ao7)
  obtain ⟨c5, f5, g5⟩ := ev_arrO (ht1 _ ev_ao5)
  have hA : ∀ a : Nat, a < s.heap.size → ¬ (fun q : Nat => s.heap.size ≤ q) a := fun a ha => by show ¬ s.heap.size ≤ a; omega
  refine ⟨((fun c => (D c).1, fun c => (D c).2), (fun k => match k with | 0 => c0 | 1 => c1 | 2 => c2 | 3 => c3 | 4 => c4 | _ => c5), (s.heap.size, b, L), xs, adK, adV), rfl, rfl, rfl, rfl, ⟨fun c q hq => ?_, fun k q hq => ?_⟩, fun c i t hw => va_Nw.of rfl (ht1 _ hw), ⟨va_AO.of (ht1 _ ev_ao7), va_AO.of (ht1 _ ev_ao5)⟩, ⟨hstr, fun c i k p hk => ?_, ?_, ?_⟩, ⟨hX, hbl⟩, Nat.le_refl _⟩
  · have hc : c < 10 := (List.getElem?_eq_some_iff.mp hq).1
    rw [dsVw hc] at hq
    cases hq
    exact hD c hc
  · match k, hq with
    | 0, hq => cases hq; exact ⟨f0, g0⟩
    | 1, hq => cases hq; exact ⟨f1, g1⟩
    | 2, hq => cases hq; exact ⟨f2, g2⟩
    | 3, hq => cases hq; exact ⟨f3, g3⟩
    | 4, hq => cases hq; exact ⟨f4, g4⟩
    | 5, hq => cases hq; exact ⟨f5, g5⟩
    | k + 6, hq => simp [dsTy] at hq
  · by_cases h6 : c = 6
    · subst h6
      obtain ⟨z1, z2⟩ := ev_k6 _ (dsLk_in hk)
      have z1 : k < 15 := z1
      have z2 : evI.getD k 0 = i := z2
      have e1 := ht1 _ (ev_r6 k z1)
      have e2 := hev k z1
      unfold evT at e2
      rw [z2] at e1 e2
      exact vk_R.of e1 e2
    · by_cases h9 : c = 9
      · subst h9
        obtain ⟨z1, z2⟩ := ev_k9 _ (dsLk_in hk)
        have z1 : k < 15 := z1
        have z2 : evJ.getD k 0 = i := z2
        have e1 := ht1 _ (ev_r9 k z1)
        have e2 := va_eqR (hs _ (ev_eq k z1)) (hev k z1)
        rw [z2] at e1 e2
        exact vk_R.of e1 e2
      · have hn : dsKS c = [] := by
          unfold dsKS
          split
          · exact absurd rfl h6
          · exact absurd rfl h9
          · rfl
        rw [hn] at hk
        cases hk
  · exact va_Zof (ht1 _ ev_ls1) (ht2 _ ssI0) (va_eqi (hs _ ev_cs)) hA
  · exact va_Zqof (ht1 _ ev_ls2) (ht2 _ ssI3) (hs _ ev_sf) hA
