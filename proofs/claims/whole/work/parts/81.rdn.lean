/-! the reference's reader: a line, the whole tape, choir -/
def fullC (n : Int) (b : Int → Int) (W : dsW) (q : psT) : Prop := q.1 = 0 ∧ ((isW n b q.2.2 4 ∧ wW W = 3) ∨ (isW n b q.2.2 7 ∧ wN W = 6) ∨ (isW n b q.2.2 11 ∧ evN (wR W) = 8) ∨ (isW n b q.2.2 14 ∧ evN (wT W) = 6))
theorem full_ct {M : dsMem} {n : Int} {b : Int → Int} {q : psT} {W : dsW} (h : RQs M n b q) (hd : RWd (M 90) W) [Decidable (fullC n b W q)] : bCt 211 [uR 11 84] M (fun _ => [uI (if fullC n b W q then 1 else 0)]) (fun M' => M' = M) := by
  intro Q hQ
  have e3 : M 90 3 = wW W := hd.1.2.2.2.1
  have e4 : M 90 4 = wN W := hd.1.2.2.2.2.1
  have e5 : M 90 5 = evN (wR W) := hd.1.2.2.2.2.2.1
  have e6 : M 90 6 = evN (wT W) := hd.1.2.2.2.2.2.2.1
  have yes : fullC n b W q → Q [uI 1] M := fun c => q_eq (by rw [if_pos c]) (hQ M rfl)
  have no : ¬ fullC n b W q → Q [uI 0] M := fun c => q_eq (by rw [if_neg c]) (hQ M rfl)
  have s61 : ¬ (q.1 = 0 ∧ isW n b q.2.2 4 ∧ wW W = 3) → ¬ (q.1 = 0 ∧ isW n b q.2.2 7 ∧ wN W = 6) → ¬ (q.1 = 0 ∧ isW n b q.2.2 11 ∧ evN (wR W) = 8) → bB 211 61 [uR 11 84] [] M Q := fun n1 n2 n3 => by
    have none : ¬ (q.1 = 0 ∧ isW n b q.2.2 14 ∧ evN (wT W) = 6) → Q [uI 0] M := fun n4 => no (fun c => by
      rcases c.2 with u | u | u | u
      · exact n1 ⟨c.1, u⟩
      · exact n2 ⟨c.1, u⟩
      · exact n3 ⟨c.1, u⟩
      · exact n4 ⟨c.1, u⟩)
    refine r211n_61 (hA1 := is_ct (k := 14) (by omega) h) (k1 := fun M1 r u => ?_) (k2 := fun M1 r u v => ?_) (k3 := fun M1 r u v => ?_)
    · subst r; exact none (fun c => if01_0 u ⟨c.1, c.2.1⟩)
    · subst r; exact none (fun c => v (e6.trans c.2.2))
    · subst r; exact yes ⟨(if01_1 u).1, Or.inr (Or.inr (Or.inr ⟨(if01_1 u).2, e6.symm.trans v⟩))⟩
  have s41 : ¬ (q.1 = 0 ∧ isW n b q.2.2 4 ∧ wW W = 3) → ¬ (q.1 = 0 ∧ isW n b q.2.2 7 ∧ wN W = 6) → bB 211 41 [uR 11 84] [] M Q := fun n1 n2 => by
    refine r211n_41 (hA1 := is_ct (k := 11) (by omega) h) (k1 := fun M1 r u => ?_) (k2 := fun M1 r u v => ?_) (k3 := fun M1 r u v => ?_)
    · subst r; exact s61 n1 n2 (fun c => if01_0 u ⟨c.1, c.2.1⟩)
    · subst r; exact yes ⟨(if01_1 u).1, Or.inr (Or.inr (Or.inl ⟨(if01_1 u).2, e5.symm.trans v⟩))⟩
    · subst r; exact s61 n1 n2 (fun c => v (e5.trans c.2.2))
  have s19 : ¬ (q.1 = 0 ∧ isW n b q.2.2 4 ∧ wW W = 3) → bB 211 19 [uR 11 84] [] M Q := fun n1 => by
    refine r211n_19 (hA1 := is_ct (k := 7) (by omega) h) (k1 := fun M1 r u => ?_) (k2 := fun M1 r u v => ?_) (k3 := fun M1 r u v => ?_)
    · subst r; exact s41 n1 (fun c => if01_0 u ⟨c.1, c.2.1⟩)
    · subst r; exact s41 n1 (fun c => v (e4.trans c.2.2))
    · subst r; exact yes ⟨(if01_1 u).1, Or.inr (Or.inl ⟨(if01_1 u).2, e4.symm.trans v⟩)⟩
  refine r211n_0 (hA1 := is_ct (k := 4) (by omega) h) (k1 := fun M1 r u => ?_) (k2 := fun M1 r u v => ?_) (k3 := fun M1 r u v => ?_)
  · subst r; exact s19 (fun c => if01_0 u ⟨c.1, c.2.1⟩)
  · subst r; exact yes ⟨(if01_1 u).1, Or.inl ⟨(if01_1 u).2, e3.symm.trans v⟩⟩
  · subst r; exact s19 (fun c => v (e3.trans c.2.2))
/-- a line but for its sign -/
def lnN (n : Int) (b : Int → Int) (W : dsW) (p : Int) : dsW × psT :=
  if lnK n b W p = 1 then (walW n b W (0, -1, tU n b p), walQ2 n b (0, -1, tU n b p))
  else if lnK n b W p = 2 then (stoW n b W (0, -1, tU n b p), stoQ3 n b W (0, -1, tU n b p))
  else if lnK n b W p = 3 then (raiW n b W (0, -1, tU n b p), raiQ3 n b (0, -1, tU n b p))
  else if lnK n b W p = 4 then (tapW n b W (0, -1, tU n b p), tapQ3 n b W (0, -1, tU n b p))
  else if lnK n b W p = 5 then (W, (1, tF n b p, p)) else (W, (3, tF n b p, p))
theorem next_ct {M : dsMem} {n p : Int} {b : Int → Int} {W : dsW} (h : RQs M n b (0, -1, p)) (hd : RWd (M 90) W) (hW : DOK W) (hz : ¬ wLn W = 0) : bCt 212 [uR 11 84, uX 0] M (fun _ => []) (RLn M n b (lnN n b W p).2 (lnN n b W p).1) := by
  intro Q hQ
  have hw := hW.1.1
  have av : avQ n b (0, -1, p) = (0, -1, tU n b p) := rfl
  -- a fault ends it
  have fin0 : ∀ q M1, ¬ q.1 = 0 → RQs M1 n b q → Fr FE M M1 → lnN n b W p = (W, q) → bB 212 63 [uR 11 84, uX 0] [] M1 Q := fun q M1 z r f e => by
    have m : ¬ M1 84 12 = 0 := fun u => z (r.2.1.symm.trans u)
    rw [e] at hQ
    exact r212n_63 (R1 := fun _ => False) (g1 := fun _ => 0) (R2 := fun _ _ => False) (g2 := fun _ _ => 0) (R3 := fun _ _ _ => False) (g3 := fun _ _ _ => 0) (R4 := fun _ _ _ _ => False) (R5 := fun _ _ _ _ _ => False) (R6 := fun _ _ _ _ => False) (R7 := fun _ _ _ => False) (R8 := fun _ _ => False) (hA1 := fun u => absurd u m) (hA2 := fun u => absurd u m) (hA3 := fun u => absurd u m) (hA4 := fun u => absurd u m) (hA5 := fun u => absurd u m) (k1 := fun u => absurd u m) (hA6 := fun u => absurd u m) (k2 := fun u => absurd u m) (hA7 := fun u => absurd u m) (k3 := fun u => absurd u m) (hA8 := fun u => absurd u m) (k4 := fun u => absurd u m) (k5 := fun _ => hQ M1 ⟨r, fun u => absurd u z, f90 f 8, FE_9 f⟩)
  by_cases hk : isW n b p 4 ∨ isW n b p 7 ∨ isW n b p 11 ∨ isW n b p 14
  · -- a known word
    have s51 : bB 212 51 [uR 11 84, uX 0] [] M Q := by
      haveI : Decidable (fullC n b W (0, -1, p)) := by unfold fullC; infer_instance
      have fe : fullC n b W (0, -1, p) ↔ lnK n b W p = 6 := by
        unfold fullC lnK
        rw [if_neg hz]
        by_cases w4 : isW n b p 4
        · have w7 := isW_ne (k := 7) (by omega) (by omega) (by omega) w4
          have w11 := isW_ne (k := 11) (by omega) (by omega) (by omega) w4
          have w14 := isW_ne (k := 14) (by omega) (by omega) (by omega) w4
          rw [if_pos w4]
          refine ⟨fun c => ?_, fun c => ⟨rfl, Or.inl ⟨w4, ?_⟩⟩⟩
          · rcases c.2 with u | u | u | u
            · rw [if_neg (by omega)]
            · exact absurd u.1 w7
            · exact absurd u.1 w11
            · exact absurd u.1 w14
          · split at c <;> omega
        · rw [if_neg w4]
          by_cases w7 : isW n b p 7
          · have w11 := isW_ne (k := 11) (by omega) (by omega) (by omega) w7
            have w14 := isW_ne (k := 14) (by omega) (by omega) (by omega) w7
            rw [if_pos w7]
            refine ⟨fun c => ?_, fun c => ⟨rfl, Or.inr (Or.inl ⟨w7, ?_⟩)⟩⟩
            · rcases c.2 with u | u | u | u
              · exact absurd u.1 w4
              · rw [if_neg (by omega)]
              · exact absurd u.1 w11
              · exact absurd u.1 w14
            · split at c <;> omega
          · rw [if_neg w7]
            by_cases w11 : isW n b p 11
            · have w14 := isW_ne (k := 14) (by omega) (by omega) (by omega) w11
              rw [if_pos w11]
              refine ⟨fun c => ?_, fun c => ⟨rfl, Or.inr (Or.inr (Or.inl ⟨w11, ?_⟩))⟩⟩
              · rcases c.2 with u | u | u | u
                · exact absurd u.1 w4
                · exact absurd u.1 w7
                · rw [if_neg (by omega)]
                · exact absurd u.1 w14
              · split at c <;> omega
            · rw [if_neg w11]
              have w14 : isW n b p 14 := by
                rcases hk with u | u | u | u
                · exact absurd u w4
                · exact absurd u w7
                · exact absurd u w11
                · exact u
              rw [if_pos w14]
              refine ⟨fun c => ?_, fun c => ⟨rfl, Or.inr (Or.inr (Or.inr ⟨w14, ?_⟩))⟩⟩
              · rcases c.2 with u | u | u | u
                · exact absurd u.1 w4
                · exact absurd u.1 w7
                · exact absurd u.1 w11
                · rw [if_neg (by omega)]
              · split at c <;> omega
      refine r212n_51 (hA1 := full_ct h hd) (k1 := fun M1 r1 u => ?_) (hA2 := fun M1 r1 u => errs_ct (x := 3) (q := (0, -1, p)) (by omega) (by rw [r1]; exact h)) (k2 := fun M1 r1 u M2 r2 => ?_)
      · subst r1
        have nf : ¬ lnK n b W p = 6 := fun c => if01_0 u (fe.2 c)
        have t0 : ∀ {k : Nat}, ¬ isW n b p k → tkQ n b k (0, -1, p) = (0, -1, p) := fun {k} w => by unfold tkQ; rw [if_neg (fun c => w c.2)]
        have t1 : ∀ {k : Nat}, isW n b p k → tkQ n b k (0, -1, p) = (0, -1, tU n b p) := fun {k} w => by unfold tkQ; rw [if_pos ⟨rfl, w⟩]; rfl
        have fin : ∀ M2 M3 q W', RLn M2 n b q W' M3 → Fr FE M1 M2 → lnN n b W p = (W', q) → Q [] M3 := fun M2 M3 q W' r f e => by
          rw [e] at hQ
          exact hQ M3 ⟨r.1, r.2.1, r.2.2.1.trans (f90 f 8), Fr_trans (FE_9 f) r.2.2.2⟩
        have rw90 : ∀ M2, Fr FE M1 M2 → RWd (M2 90) W := fun M2 f => by
          have e : M2 90 = M1 90 := funext (fun j => f90 f j)
          rw [e]; exact hd
        have m12 : M1 84 12 = 0 := h.2.1
        refine r212n_63 (hA1 := fun _ => takes_ct (k := 4) (q := (0, -1, p)) (by omega) h) (hA2 := fun _ M2 r2 u2 => takes_ct (k := 7) (q := (0, -1, p)) (by omega) (by have := r2.1; rw [t0 (fun w => if01_0 u2 ⟨rfl, w⟩)] at this; exact this)) (hA3 := fun _ M2 r2 u2 M3 r3 u3 => takes_ct (k := 11) (q := (0, -1, p)) (by omega) (by have := r3.1; rw [t0 (fun w => if01_0 u3 ⟨rfl, w⟩)] at this; exact this)) (hA4 := fun _ M2 r2 u2 M3 r3 u3 M4 r4 u4 => adv2_ct (q := (0, -1, p)) rfl (by have := r4.1; rw [t0 (fun w => if01_0 u4 ⟨rfl, w⟩)] at this; exact this)) (hA5 := fun _ M2 r2 u2 M3 r3 u3 M4 r4 u4 M5 r5 => rdtap_ct (W := W) (q := (0, -1, tU n b p)) r5.1 (rw90 M5 (Fr_trans (Fr_trans (Fr_trans r2.2 r3.2) r4.2) r5.2)) hW ?_) (k1 := fun _ M2 r2 u2 M3 r3 u3 M4 r4 u4 M5 r5 M6 r6 => fin M5 M6 _ _ r6 (Fr_trans (Fr_trans (Fr_trans r2.2 r3.2) r4.2) r5.2) ?_)
          (hA6 := fun _ M2 r2 u2 M3 r3 u3 M4 r4 u4 => rrai_ct (W := W) (q := (0, -1, tU n b p)) (by have := r4.1; rw [t1 (if01_1 u4).2] at this; exact this) (rw90 M4 (Fr_trans (Fr_trans r2.2 r3.2) r4.2)) hW ?_) (k2 := fun _ M2 r2 u2 M3 r3 u3 M4 r4 u4 M6 r6 => fin M4 M6 _ _ r6 (Fr_trans (Fr_trans r2.2 r3.2) r4.2) ?_)
          (hA7 := fun _ M2 r2 u2 M3 r3 u3 => rsto_ct (W := W) (q := (0, -1, tU n b p)) (by have := r3.1; rw [t1 (if01_1 u3).2] at this; exact this) (rw90 M3 (Fr_trans r2.2 r3.2)) hW ?_) (k3 := fun _ M2 r2 u2 M3 r3 u3 M6 r6 => fin M3 M6 _ _ r6 (Fr_trans r2.2 r3.2) ?_)
          (hA8 := fun _ M2 r2 u2 => rwal_ct (W := W) (q := (0, -1, tU n b p)) (by have := r2.1; rw [t1 (if01_1 u2).2] at this; exact this) (rw90 M2 r2.2) hW ?_) (k4 := fun _ M2 r2 u2 M6 r6 => fin M2 M6 _ _ r6 r2.2 ?_) (k5 := fun v => absurd m12 v)
        · have w4 : ¬ isW n b p 4 := fun w => if01_0 u2 ⟨rfl, w⟩
          have w7 : ¬ isW n b p 7 := fun w => if01_0 u3 ⟨rfl, w⟩
          have w11 : ¬ isW n b p 11 := fun w => if01_0 u4 ⟨rfl, w⟩
          have w14 : isW n b p 14 := by
            rcases hk with c | c | c | c
            · exact absurd c w4
            · exact absurd c w7
            · exact absurd c w11
            · exact c
          by_cases hc : evN (wT W) < 6
          · exact hc
          · exact absurd (by unfold lnK; rw [if_neg hz, if_neg w4, if_neg w7, if_neg w11, if_pos w14, if_neg hc]) nf
        · have w4 : ¬ isW n b p 4 := fun w => if01_0 u2 ⟨rfl, w⟩
          have w7 : ¬ isW n b p 7 := fun w => if01_0 u3 ⟨rfl, w⟩
          have w11 : ¬ isW n b p 11 := fun w => if01_0 u4 ⟨rfl, w⟩
          have w14 : isW n b p 14 := by
            rcases hk with c | c | c | c
            · exact absurd c w4
            · exact absurd c w7
            · exact absurd c w11
            · exact c
          have k : lnK n b W p = 4 := by
            by_cases hc : evN (wT W) < 6
            · unfold lnK; rw [if_neg hz, if_neg w4, if_neg w7, if_neg w11, if_pos w14, if_pos hc]
            · exact absurd (by unfold lnK; rw [if_neg hz, if_neg w4, if_neg w7, if_neg w11, if_pos w14, if_neg hc]) nf
          unfold lnN; rw [if_neg (by omega), if_neg (by omega), if_neg (by omega), if_pos k]
        · have w4 : ¬ isW n b p 4 := fun w => if01_0 u2 ⟨rfl, w⟩
          have w7 : ¬ isW n b p 7 := fun w => if01_0 u3 ⟨rfl, w⟩
          have w11 := (if01_1 u4).2
          by_cases hc : evN (wR W) < 8
          · exact hc
          · exact absurd (by unfold lnK; rw [if_neg hz, if_neg w4, if_neg w7, if_pos w11, if_neg hc]) nf
        · have w4 : ¬ isW n b p 4 := fun w => if01_0 u2 ⟨rfl, w⟩
          have w7 : ¬ isW n b p 7 := fun w => if01_0 u3 ⟨rfl, w⟩
          have w11 : isW n b p 11 := (if01_1 u4).2
          have k : lnK n b W p = 3 := by
            by_cases hc : evN (wR W) < 8
            · unfold lnK; rw [if_neg hz, if_neg w4, if_neg w7, if_pos w11, if_pos hc]
            · exact absurd (by unfold lnK; rw [if_neg hz, if_neg w4, if_neg w7, if_pos w11, if_neg hc]) nf
          unfold lnN; rw [if_neg (by omega), if_neg (by omega), if_pos k]
        · have w4 : ¬ isW n b p 4 := fun w => if01_0 u2 ⟨rfl, w⟩
          have w7 : isW n b p 7 := (if01_1 u3).2
          by_cases hc : wN W < 6
          · exact hc
          · exact absurd (by unfold lnK; rw [if_neg hz, if_neg w4, if_pos w7, if_neg hc]) nf
        · have w4 : ¬ isW n b p 4 := fun w => if01_0 u2 ⟨rfl, w⟩
          have w7 : isW n b p 7 := (if01_1 u3).2
          have k : lnK n b W p = 2 := by
            by_cases hc : wN W < 6
            · unfold lnK; rw [if_neg hz, if_neg w4, if_pos w7, if_pos hc]
            · exact absurd (by unfold lnK; rw [if_neg hz, if_neg w4, if_pos w7, if_neg hc]) nf
          unfold lnN; rw [if_neg (by omega), if_pos k]
        · have w4 : isW n b p 4 := (if01_1 u2).2
          by_cases hc : wW W < 3
          · exact hc
          · exact absurd (by unfold lnK; rw [if_neg hz, if_pos w4, if_neg hc]) nf
        · have w4 : isW n b p 4 := (if01_1 u2).2
          have k : lnK n b W p = 1 := by
            by_cases hc : wW W < 3
            · unfold lnK; rw [if_neg hz, if_pos w4, if_pos hc]
            · exact absurd (by unfold lnK; rw [if_neg hz, if_pos w4, if_neg hc]) nf
          unfold lnN; rw [if_pos k]
      · subst r1
        have k := fe.1 (if01_1 u)
        have er : erQ n b 3 (0, -1, p) = (3, tF n b p, p) := by unfold erQ; rw [if_pos rfl]
        rw [er] at r2
        refine fin0 (3, tF n b p, p) M2 (by show ¬ (3 : Int) = 0; omega) r2.1 r2.2 ?_
        unfold lnN; rw [if_neg (by omega), if_neg (by omega), if_neg (by omega), if_neg (by omega), if_neg (by omega)]
    have s36 : bB 212 36 [uR 11 84, uX 0] [] M Q := r212n_36 (k1 := s51)
    refine r212n_0 (hA1 := is_ct (k := 4) (by omega) h) (k1 := fun M1 r1 u => by subst r1; exact s36) (hA2 := fun M1 r1 u => is_ct (k := 7) (q := (0, -1, p)) (by omega) (by rw [r1]; exact h)) (k2 := fun M1 r1 u M2 r2 u2 => by subst r2; subst r1; exact s36) (hA3 := fun M1 r1 u M2 r2 u2 => is_ct (k := 11) (q := (0, -1, p)) (by omega) (by rw [r2, r1]; exact h)) (k3 := fun M1 r1 u M2 r2 u2 M3 r3 u3 => by subst r3; subst r2; subst r1; exact s36) (hA4 := fun M1 r1 u M2 r2 u2 M3 r3 u3 => is_ct (k := 14) (q := (0, -1, p)) (by omega) (by rw [r3, r2, r1]; exact h)) (k4 := fun M1 r1 u M2 r2 u2 M3 r3 u3 M4 r4 u4 => ?_) (k5 := fun M1 r1 u M2 r2 u2 M3 r3 u3 M4 r4 u4 => by subst r4; subst r3; subst r2; subst r1; exact s36)
    exfalso
    rcases hk with c | c | c | c
    · exact if01_0 u ⟨rfl, c⟩
    · exact if01_0 u2 ⟨rfl, c⟩
    · exact if01_0 u3 ⟨rfl, c⟩
    · exact if01_0 u4 ⟨rfl, c⟩
  · -- an unknown word
    have kk : lnK n b W p = 5 := by
      unfold lnK
      rw [if_neg hz, if_neg (fun c => hk (Or.inl c)), if_neg (fun c => hk (Or.inr (Or.inl c))), if_neg (fun c => hk (Or.inr (Or.inr (Or.inl c)))), if_neg (fun c => hk (Or.inr (Or.inr (Or.inr c))))]
    have ee : lnN n b W p = (W, (1, tF n b p, p)) := by unfold lnN; rw [if_neg (by omega), if_neg (by omega), if_neg (by omega), if_neg (by omega), if_pos kk]
    have er : erQ n b 1 (0, -1, p) = (1, tF n b p, p) := by unfold erQ; rw [if_pos rfl]
    have s40 : bB 212 40 [uR 11 84, uX 0] [] M Q := by
      refine r212n_40 (hA1 := errs_ct (x := 1) (by omega) h) (k1 := fun M1 r1 => ?_)
      rw [er] at r1
      have z : ¬ ((1, tF n b p, p) : psT).1 = 0 := by show ¬ (1 : Int) = 0; omega
      haveI : Decidable (fullC n b W (1, tF n b p, p)) := isFalse (fun c => z c.1)
      have hd1 : RWd (M1 90) W := by
        have e : M1 90 = M 90 := funext (fun j => f90 r1.2 j)
        rw [e]; exact hd
      refine r212n_51 (R2 := fun _ _ => False) (hA1 := full_ct r1.1 hd1) (k1 := fun M2 r2 u => ?_) (hA2 := fun M2 r2 u => absurd (if01_1 u).1 z) (k2 := fun M2 r2 u => absurd (if01_1 u).1 z)
      subst r2
      exact fin0 _ M2 z r1.1 r1.2 ee
    refine r212n_0 (hA1 := is_ct (k := 4) (by omega) h) (k1 := fun M1 r1 u => absurd (Or.inl (if01_1 u).2) hk) (hA2 := fun M1 r1 u => is_ct (k := 7) (q := (0, -1, p)) (by omega) (by rw [r1]; exact h)) (k2 := fun M1 r1 u M2 r2 u2 => absurd (Or.inr (Or.inl (if01_1 u2).2)) hk) (hA3 := fun M1 r1 u M2 r2 u2 => is_ct (k := 11) (q := (0, -1, p)) (by omega) (by rw [r2, r1]; exact h)) (k3 := fun M1 r1 u M2 r2 u2 M3 r3 u3 => absurd (Or.inr (Or.inr (Or.inl (if01_1 u3).2))) hk) (hA4 := fun M1 r1 u M2 r2 u2 M3 r3 u3 => is_ct (k := 14) (q := (0, -1, p)) (by omega) (by rw [r3, r2, r1]; exact h)) (k4 := fun M1 r1 u M2 r2 u2 M3 r3 u3 M4 r4 u4 => by subst r4; subst r3; subst r2; subst r1; exact s40) (k5 := fun M1 r1 u M2 r2 u2 M3 r3 u3 M4 r4 u4 => absurd (Or.inr (Or.inr (Or.inr (if01_1 u4).2))) hk)
