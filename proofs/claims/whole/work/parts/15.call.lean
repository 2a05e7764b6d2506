/-! calls of methods of the tables, and returns -/
def dsRv (E : dsE) (r : List dsV) : Option Value := match r with
  | [] => none
  | v :: _ => some (dsVal E v)
/-- a method's contract, out of its walk -/
def dsQc (E : dsE) (Q : dsQT) : Array Value → State → Outcome → State → Prop := fun _ st o t =>
  (∃ (r : List dsV) (M : dsMem), Q r M ∧ dsGs r ∧ r.length ≤ 1 ∧ o = .returned (dsRv E r) ∧ dsRel E M t.heap) ∧ va_F (dsOwn E) st t
def dsPc (E : dsE) (M : dsMem) (as : List dsV) : Array Value → State → Prop := fun v U => v = (as.map (dsVal E)).toArray ∧ dsEv E U ∧ dsRel E M U.heap
def dsRm (t : Nat) : Room := { frames := dsRk t, cells := dsMc t, slots := dsMs t, locals := 40 * dsRk t }
theorem ds_lgsl (E : dsE) (as : List dsV) : (lg_sl (as.map (dsVal E))).length = (dsFl as).length := by
  induction as with
  | nil => rfl
  | cons v r ih =>
    have e : lg_sl ((v :: r).map (dsVal E)) = (if (dsVal E v).category = 2 then [Slot.val (dsVal E v), .second] else [.val (dsVal E v)]) ++ lg_sl (r.map (dsVal E)) := rfl
    rw [e, List.length_append, ih, dsCat]
    rcases v with x | x | x | n
    · show 1 + _ = _; simp [dsFl]; omega
    · show 2 + _ = _; simp [dsFl]; omega
    · show 1 + _ = _; simp [dsFl]; omega
    · show 1 + _ = _; simp [dsFl]; omega
theorem ds_args (E : dsE) : ∀ (as : List dsV) (i k : Nat) (tl : List dsV), (∀ j, dsg tl j = vX 0) → dsg (dsFl as ++ tl) k ≠ vX 0 → (i + k, dsVal E (dsg (dsFl as ++ tl) k)) ∈ lv_args i (as.map (dsVal E)) := by
  intro as
  induction as with
  | nil => intro i k tl htl h; exact absurd (htl k) h
  | cons v r ih =>
    intro i k tl htl h
    have one : dsC v = 1 → dsFl (v :: r) = v :: dsFl r → (i + k, dsVal E (dsg (dsFl (v :: r) ++ tl) k)) ∈ lv_args i ((v :: r).map (dsVal E)) := by
      intro hc e
      have e2 : lv_args i ((v :: r).map (dsVal E)) = (i, dsVal E v) :: lv_args (i + 1) (r.map (dsVal E)) := by
        show (i, dsVal E v) :: lv_args (if (dsVal E v).category = 2 then i + 2 else i + 1) _ = _
        rw [dsCat, hc]
        rfl
      rw [e] at h ⊢
      rw [e2]
      cases k with
      | zero => exact List.mem_cons_self
      | succ k =>
        have := ih (i + 1) k tl htl h
        rw [show i + 1 + k = i + (k + 1) by omega] at this
        exact List.mem_cons_of_mem _ this
    rcases v with x | x | x | n
    · exact one rfl rfl
    · have e2 : lv_args i ((vJ x :: r).map (dsVal E)) = (i, dsVal E (vJ x)) :: lv_args (i + 2) (r.map (dsVal E)) := rfl
      rw [e2]
      match k, h with
      | 0, h => exact List.mem_cons_self
      | 1, h => exact absurd rfl h
      | k + 2, h =>
        have := ih (i + 2) k tl htl h
        rw [show i + 2 + k = i + (k + 2) by omega] at this
        exact List.mem_cons_of_mem _ this
    · exact one rfl rfl
    · exact one rfl rfl
theorem dsg_rep (n j : Nat) : dsg (List.replicate n (vX 0)) j = vX 0 := by
  induction n generalizing j with
  | zero => rfl
  | succ n ih =>
    cases j with
    | zero => rfl
    | succ j => exact ih j
theorem ds_gfl : ∀ (as : List dsV) (tl : List dsV), (∀ j, dsg tl j = vX 0) → dsGs as → ∀ k, dsGv (dsg (dsFl as ++ tl) k) := by
  intro as
  induction as with
  | nil => intro tl htl _ k; show dsGv (dsg tl k); rw [htl k]; trivial
  | cons v r ih =>
    intro tl htl hg k
    rcases v with x | x | x | n
    · cases k with
      | zero => exact hg.1
      | succ k => exact ih tl htl hg.2 k
    · match k with
      | 0 => exact hg.1
      | 1 => exact trivial
      | k + 2 => exact ih tl htl hg.2 k
    · cases k with
      | zero => exact hg.1
      | succ k => exact ih tl htl hg.2 k
    · cases k with
      | zero => exact hg.1
      | succ k => exact ih tl htl hg.2 k
theorem ds_rf_or (E : dsE) (x : Int) : dsVal E (vR x) = .null ∨ ∃ a, dsVal E (vR x) = .ref a := by
  by_cases h : x < 0
  · exact Or.inl (by show dsRf E x = _; unfold dsRf; rw [if_pos h])
  · exact Or.inr ⟨eB E + x.toNat, by show dsRf E x = _; unfold dsRf; rw [if_neg h]⟩
set_option maxHeartbeats 4000000 in
theorem ds_met {E : dsE} {l : Launch} {t : Nat} {as : List dsV} {M : dsMem} {Q : dsQT} (hk : dsKd t ≠ 3) (hg : dsGs as) (hn : (dsFl as).length ≤ dsMx t) (h : dsSem E l t 0 (dsIn t as) [] (0, 0) M Q) :
    Met l (dsYn t) (.code (dsYn t) (dsCd t) (dsMx t) (dsRt t) :: dsTS) (dsRm t) (dsPc E M as) (dsQc E Q) (dsMc t) (dsMs t) (dsOwn E) := by
  obtain ⟨m1, m2, m3, m4, m5, m6, m7, m8, m9⟩ := ds_meth hk
  refine Met.ofW (cc := dsCd t) (maxL := dsMx t) (ret := dsRt t) m4 rfl ?_
  intro p e s mid args below meth c s₁ B hml hv
  obtain ⟨rfl, hev, hrel⟩ := hv
  have hts0 := atoms_spec (ws := .code (dsYn t) (dsCd t) (dsMx t) (dsRt t) :: dsTS) B.pre
  have hts : ∀ w ∈ dsTS, w.before ((as.map (dsVal E)).toArray) s = true := fun w hw => hts0 w (List.mem_cons_of_mem _ hw)
  have hown : s.vm.findClass (dsR (dsCl t)) = some mid.cls := by
    rw [← m5.1]; exact findClass_of_methodNamed B.named
  have hlocks := B.notSynchronized
  have hr := B.returns
  have hx := B.exec
  have hb := B.bytes
  have hX : dsCx E t p (dsRm t) s mid ((as.map (dsVal E)).toArray) meth c := ⟨hx, hb, hml, hown, hts, fun q => by rw [(name_of_methodNamed B.named B.method).1]; exact (m9 q).1, ⟨Nat.le_refl _, Nat.le_refl _, Nat.le_refl _, Nat.le_refl _⟩, hev⟩
  have hl := lv_entry (as.map (dsVal E)) (n := dsMx t) (by rw [ds_lgsl]; exact hn)
  rw [lg_entry_eq]
  generalize (lg_sl (as.map (dsVal E)) ++ List.replicate (dsMx t - (lg_sl (as.map (dsVal E))).length) Slot.unset).toArray = arr at hl ⊢
  have hLR : dsLR E arr (dsMx t) (dsIn t as) := by
    refine ⟨hl.1, hl.2.1, fun i hi => ?_, fun i => ds_gfl as _ (dsg_rep _) hg i⟩
    have := ds_args E as 0 i _ (dsg_rep _) hi
    rw [Nat.zero_add] at this
    exact hl.2.2 _ this
  refine h p e (dsRm t) s mid _ below meth c s.heap [] arr _ hX hrel va_S.rf hLR trivial ⟨Nat.zero_le _, Nat.zero_le _⟩ ?_
  intro r M' H' locs' u' pc' arr' hQ hgr hrel' hS' hu' hri
  refine W.widen hu'.1 hu'.2 ?_
  rcases r with _ | ⟨v, r2⟩
  · exact W.vret hx hb (by rw [hr]; exact hri.2) (fun t ht hW => ⟨⟨[], M', hQ, hgr, Nat.zero_le _, rfl, by rw [ht]; exact hrel'⟩, hS'.F ht⟩) hS'.2.2 hri.1
  · rcases r2 with _ | ⟨w, r3⟩
    · rcases v with x | x | x | n
      · rcases hri.2 with h1 | ⟨h1, h2⟩
        · exact W.iret hx hb (by rw [hr]; exact h1) (fun t ht hW => ⟨⟨[vI x], M', hQ, hgr, Nat.le_refl _, rfl, by rw [ht]; exact hrel'⟩, hS'.F ht⟩) hS'.2.2 hri.1
        · exact W.zret hx hb (by rw [hr]; exact h1) (ds_narB h2) (fun t ht hW => ⟨⟨[vI x], M', hQ, hgr, Nat.le_refl _, rfl, by rw [ht]; exact hrel'⟩, hS'.F ht⟩) hS'.2.2 hri.1
      · exact W.lret hx hb (by rw [hr]; exact hri.2) (fun t ht hW => ⟨⟨[vJ x], M', hQ, hgr, Nat.le_refl _, rfl, by rw [ht]; exact hrel'⟩, hS'.F ht⟩) hS'.2.2 hri.1
      · obtain ⟨nm, h1⟩ := hri.2
        exact W.aret hx hb (by rw [hr]; exact h1) (Or.inl ⟨nm, rfl⟩) (ds_rf_or E x) (fun t ht hW => ⟨⟨[vR x], M', hQ, hgr, Nat.le_refl _, rfl, by rw [ht]; exact hrel'⟩, hS'.F ht⟩) hS'.2.2 hri.1
      · exact hri.elim
    · rcases v with x | x | x | n <;> exact hri.elim
theorem dsPc_blind {E : dsE} {M : dsMem} {as : List dsV} : FrameBlind (dsPc E M as) := by
  rintro a U g mk ⟨h1, h2, h3⟩
  exact ⟨h1, h2.moved (H := U.heap) (locs := []) rfl (State.WarmedH.refl U) va_S.rf, h3⟩
section DsCall
variable {E : dsE} {l : Launch} {m pc : Nat} {M : dsMem} {p : Program} {e : Env} {R : Room} {s : State} {mid : MethodId} {args : Array Value} {below : List Frame} {meth : Method} {c : Code} {H : Heap} {locs : List Loc} {arr : Array Slot} {Z : State → Prop} {cells slots : Nat}
theorem ds_after {t : Nat} {Q : dsQT} {rest : List dsV} {g0 : List Value} {a : Array Value} (hr : va_Run p l e R s mid args below meth c H locs cells slots (dsMc t) (dsMs t) (F0 mid pc arr g0) (rest.map (dsVal E)) (dsQc E Q a) (dsOwn E)) (hS : va_S (dsOwn E) s.heap H locs)
    (kk : ∀ (r : List dsV) (M' : dsMem) (H' : Heap) (locs' : List Loc), Q r M' → dsGs r → dsRel E M' H' → va_S (dsOwn E) s.heap H' locs' → W p l e R s mid args below meth c H' locs' (cells + dsMc t) (slots + dsMs t) Z (F0 mid (pc + 3) arr ((r ++ rest).map (dsVal E)))) :
    W p l e R s mid args below meth c H locs cells slots Z (F0 mid pc arr g0) := by
  intro T hT X
  obtain ⟨v, st₀, t', T', L, h0, X', hL, e1, e2, ⟨⟨r, M', hQ, hgr, hrl, ho, hrel⟩, hz, hk⟩, st⟩ := hr T hT X
  rw [h0] at hz hk
  have hv : v = dsRv E r := by cases ho; rfl
  obtain ⟨t2, a1, b1⟩ := kk r M' T'.heap (locs ++ L) hQ hgr (by rw [e1]; exact hrel)
    ⟨Nat.le_trans hS.1 (by rw [e1]; exact hz), fun q h1 h2 => by rw [e1, hk q (Nat.lt_of_lt_of_le h1 hS.1) h2]; exact hS.2.1 q h1 h2, fun q hq => by
      rcases List.mem_append.mp hq with h | h
      · exact hS.2.2 q h
      · exact hL q h⟩ T' rfl X'
  refine ⟨t2, st t2 ?_, b1⟩
  have e3 : (r ++ rest).map (dsVal E) = v.toList ++ rest.map (dsVal E) := by
    rw [hv]
    rcases r with _ | ⟨w, _ | ⟨w2, r3⟩⟩
    · rfl
    · rfl
    · simp at hrl
  rw [e3] at a1
  exact a1
theorem ds_goodc {t : Nat} (hk : dsKd t ≠ 3) : GoodIn dsTS (.code (dsYn t) (dsCd t) (dsMx t) (dsRt t) :: dsTS) := by
  intro w hw
  rcases List.mem_cons.mp hw with rfl | hw
  · exact dsTS_good _ (ds_meth hk).1
  · exact dsTS_good _ hw
theorem dsPop_spec : ∀ (n : Nat) (st acc as rest : List dsV), dsPop n st acc = some (as, rest) → ∃ xs : List dsV, st = xs ++ rest ∧ as = xs.reverse ++ acc ∧ xs.length = n := by
  intro n
  induction n with
  | zero =>
    intro st acc as rest h
    cases h
    exact ⟨[], rfl, rfl, rfl⟩
  | succ n ih =>
    intro st acc as rest h
    cases st with
    | nil => cases h
    | cons v st =>
      obtain ⟨xs, h1, h2, h3⟩ := ih st (v :: acc) as rest h
      exact ⟨v :: xs, by rw [h1]; rfl, by rw [h2]; simp, by simp [h3]⟩
theorem dsGs_split {a b : List dsV} (h : dsGs (a ++ b)) : dsGs a ∧ dsGs b := by
  induction a with
  | nil => exact ⟨trivial, h⟩
  | cons v r ih => exact ⟨⟨h.1, (ih h.2).1⟩, (ih h.2).2⟩
theorem dsGs_mem {a : List dsV} : dsGs a ↔ ∀ v ∈ a, dsGv v := by
  induction a with
  | nil => exact ⟨fun _ v h => (by cases h), fun _ => trivial⟩
  | cons v r ih =>
    refine ⟨fun h w hw => ?_, fun h => ⟨h v List.mem_cons_self, ih.mpr fun w hw => h w (List.mem_cons_of_mem _ hw)⟩⟩
    rcases List.mem_cons.mp hw with rfl | hw
    · exact h.1
    · exact ih.mp h.2 w hw
theorem dsGs_rev {a : List dsV} (h : dsGs a) : dsGs a.reverse := dsGs_mem.mpr fun v hv => dsGs_mem.mp h v (List.mem_reverse.mp hv)
end DsCall
