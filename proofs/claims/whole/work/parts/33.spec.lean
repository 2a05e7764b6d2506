/-! the spec: layers, states, years -/
abbrev dsL := List (Int × Int)
def dySum : dsL → Int
  | [] => 0
  | p :: l => p.2 + dySum l
def dyLay : dsL → Int → Int → dsL
  | [], k, n => [(k, n)]
  | [p], k, n => if p.1 = k then [(p.1, p.2 + n)] else [p, (k, n)]
  | p :: q :: l, k, n => p :: dyLay (q :: l) k n
def dyDr : dsL → Int → dsL
  | [], _ => []
  | p :: l, n => if n ≤ 0 then p :: l else if p.2 ≤ n then dyDr l (n - p.2) else (p.1, p.2 - n) :: l
def dyDrs : dsL → Int → Int → Int
  | [], _, _ => 0
  | p :: l, n, k => if n ≤ 0 then 0 else (if p.1 = k then (if p.2 ≤ n then p.2 else n) else 0) + dyDrs l (n - p.2) k
def dyWl (l : dsL) : Prop := ∀ p ∈ l, 1 ≤ p.2 ∧ 1 ≤ p.1 ∧ p.1 ≤ 5
def dyRp (M : dsMem) (sa ma : Int) : Int → dsL → Prop
  | _, [] => True
  | b, p :: l => (M sa b = p.1 ∧ M ma b = p.2) ∧ dyRp M sa ma (b + 1) l
/-- how much goes when n is let out -/
def dyAm (l : dsL) (n : Int) : Int := if n ≤ 0 then 0 else if dySum l ≤ n then dySum l else n
theorem dyAm_cons (p : Int × Int) (l : dsL) (n : Int) : dyAm (p :: l) n = if n ≤ 0 then 0 else if p.2 + dySum l ≤ n then p.2 + dySum l else n := rfl
theorem dyAm_nil (n : Int) : dyAm [] n = 0 := by
  show (if n ≤ 0 then (0 : Int) else if (0 : Int) ≤ n then 0 else n) = 0
  split
  · rfl
  · rw [if_pos (by omega)]
theorem dyWl_nil : dyWl [] := fun p h => absurd h List.not_mem_nil
theorem dyWl_tail {p : Int × Int} {l : dsL} (h : dyWl (p :: l)) : dyWl l := fun q hq => h q (List.mem_cons_of_mem _ hq)
theorem dyWl_head {p : Int × Int} {l : dsL} (h : dyWl (p :: l)) : 1 ≤ p.2 ∧ 1 ≤ p.1 ∧ p.1 ≤ 5 := h p List.mem_cons_self
theorem dyWl_cons {p : Int × Int} {l : dsL} (hp : 1 ≤ p.2 ∧ 1 ≤ p.1 ∧ p.1 ≤ 5) (h : dyWl l) : dyWl (p :: l) := by
  intro q hq
  rcases List.mem_cons.1 hq with e | e
  · rw [e]; exact hp
  · exact h q e
theorem dySum_len : ∀ {l : dsL}, dyWl l → (l.length : Int) ≤ dySum l
  | [], _ => by simp [dySum]
  | p :: l, h => by
    have h1 := dySum_len (dyWl_tail h)
    have h2 := (dyWl_head h).1
    simp only [List.length_cons, dySum]
    omega
theorem dySum_nn {l : dsL} (h : dyWl l) : 0 ≤ dySum l := by
  have := dySum_len h
  omega
theorem dySum_app : ∀ (l r : dsL), dySum (l ++ r) = dySum l + dySum r
  | [], r => by simp [dySum]
  | p :: l, r => by
    simp only [List.cons_append, dySum]
    rw [dySum_app l r]
    omega
theorem dyLay_snoc : ∀ (l : dsL) (p : Int × Int) (k n : Int), dyLay (l ++ [p]) k n = if p.1 = k then l ++ [(p.1, p.2 + n)] else l ++ [p, (k, n)]
  | [], p, k, n => by simp [dyLay]
  | [q], p, k, n => by
    simp only [List.cons_append, List.nil_append, dyLay]
    split <;> rfl
  | q :: q2 :: l, p, k, n => by
    have h := dyLay_snoc (q2 :: l) p k n
    simp only [List.cons_append] at h ⊢
    rw [dyLay, h]
    split <;> rfl
theorem dyLay_sum (l : dsL) (k n : Int) : dySum (dyLay l k n) = dySum l + n := by
  rcases List.eq_nil_or_concat l with e | ⟨l0, p, e⟩
  · subst e; simp [dyLay, dySum]
  · subst e
    rw [List.concat_eq_append, dyLay_snoc]
    split
    · rw [dySum_app, dySum_app]; simp only [dySum]; omega
    · rw [dySum_app, dySum_app]; simp only [dySum]; omega
theorem dyWl_app {l r : dsL} : dyWl (l ++ r) ↔ dyWl l ∧ dyWl r := by
  constructor
  · intro h
    exact ⟨fun p hp => h p (List.mem_append.2 (Or.inl hp)), fun p hp => h p (List.mem_append.2 (Or.inr hp))⟩
  · rintro ⟨h1, h2⟩ p hp
    rcases List.mem_append.1 hp with e | e
    · exact h1 p e
    · exact h2 p e
theorem dyLay_wl {l : dsL} {k n : Int} (h : dyWl l) (hk : 1 ≤ k ∧ k ≤ 5) (hn : 1 ≤ n) : dyWl (dyLay l k n) := by
  rcases List.eq_nil_or_concat l with e | ⟨l0, p, e⟩
  · subst e; exact dyWl_cons ⟨hn, hk.1, hk.2⟩ dyWl_nil
  · subst e
    rw [List.concat_eq_append] at h ⊢
    rw [dyLay_snoc]
    have hp := dyWl_head (dyWl_app.1 h).2
    split
    · exact dyWl_app.2 ⟨(dyWl_app.1 h).1, dyWl_cons ⟨by simp only; omega, hp.2⟩ dyWl_nil⟩
    · exact dyWl_app.2 ⟨(dyWl_app.1 h).1, dyWl_cons hp (dyWl_cons ⟨hn, hk.1, hk.2⟩ dyWl_nil)⟩
theorem dyDr_0 {l : dsL} {n : Int} (h : n ≤ 0) : dyDr l n = l := by
  cases l with
  | nil => rfl
  | cons p l => rw [dyDr, if_pos h]
theorem dyDr_wl : ∀ {l : dsL} {n : Int}, dyWl l → dyWl (dyDr l n)
  | [], _, _ => dyWl_nil
  | p :: l, n, h => by
    rw [dyDr]
    split
    · exact h
    · split
      · exact dyDr_wl (dyWl_tail h)
      · exact dyWl_cons ⟨by simp only; omega, (dyWl_head h).2⟩ (dyWl_tail h)
theorem dyDr_sum : ∀ {l : dsL} {n : Int}, dyWl l → dySum (dyDr l n) = dySum l - dyAm l n
  | [], n, _ => by rw [dyAm_nil]; simp [dyDr, dySum]
  | p :: l, n, h => by
    have h1 := (dyWl_head h).1
    have h2 := dySum_nn (dyWl_tail h)
    rw [dyDr, dyAm_cons]
    by_cases hn : n ≤ 0
    · rw [if_pos hn, if_pos hn]; omega
    · rw [if_neg hn, if_neg hn]
      by_cases hm : p.2 ≤ n
      · rw [if_pos hm, dyDr_sum (dyWl_tail h)]
        unfold dyAm
        show _ = p.2 + dySum l - _
        (repeat' split) <;> omega
      · rw [if_neg hm, if_neg (by omega)]
        show p.2 - n + dySum l = p.2 + dySum l - n
        omega
theorem dyDr_len : ∀ {l : dsL} {n : Int}, (dyDr l n).length ≤ l.length
  | [], _ => by simp [dyDr]
  | p :: l, n => by
    rw [dyDr]
    split
    · exact Nat.le_refl _
    · split
      · have := @dyDr_len l (n - p.2)
        simp only [List.length_cons]; omega
      · simp
theorem dyDr_all : ∀ {l : dsL} {n : Int}, dyWl l → dySum l ≤ n → dyDr l n = []
  | [], _, _, _ => rfl
  | p :: l, n, h, hn => by
    have h1 := (dyWl_head h).1
    have h2 := dySum_nn (dyWl_tail h)
    simp only [dySum] at hn
    rw [dyDr, if_neg (by omega), if_pos (by omega)]
    exact dyDr_all (dyWl_tail h) (by omega)
theorem dyDrs_nn : ∀ {l : dsL} {n k : Int}, dyWl l → 0 ≤ dyDrs l n k
  | [], _, _, _ => by simp [dyDrs]
  | p :: l, n, k, h => by
    have h1 := (dyWl_head h).1
    have h2 := dyDrs_nn (n := n - p.2) (k := k) (dyWl_tail h)
    rw [dyDrs]
    split
    · omega
    · split
      · split <;> omega
      · omega
theorem dyDrs_le : ∀ {l : dsL} {n k : Int}, dyWl l → dyDrs l n k ≤ dyAm l n
  | [], _, _, _ => by rw [dyAm_nil]; simp [dyDrs]
  | p :: l, n, k, h => by
    have h1 := (dyWl_head h).1
    have h3 := dySum_nn (dyWl_tail h)
    have h2 := dyDrs_le (n := n - p.2) (k := k) (dyWl_tail h)
    unfold dyAm at h2
    rw [dyDrs, dyAm_cons]
    (repeat' split) <;> (repeat' split at h2) <;> omega
theorem dyAm_nn {l : dsL} {n : Int} (h : dyWl l) : 0 ≤ dyAm l n ∧ dyAm l n ≤ dySum l := by
  have h3 := dySum_nn h
  unfold dyAm
  (repeat' split) <;> omega
theorem dyAm_le {l : dsL} {n : Int} (hn : 0 ≤ n) : dyAm l n ≤ n := by
  unfold dyAm
  (repeat' split) <;> omega
theorem dyDr_am {l : dsL} {n : Int} (h : dyWl l) (hn : dySum l ≤ n) : dyDr l n = dyDr l (dySum l) := by
  rw [dyDr_all h hn, dyDr_all h (by omega)]
theorem dyDrs_am : ∀ {l : dsL} {n k : Int}, dyWl l → dySum l ≤ n → dyDrs l n k = dyDrs l (dySum l) k
  | [], _, _, _, _ => rfl
  | p :: l, n, k, h, hn => by
    have h1 := (dyWl_head h).1
    have h2 := dySum_nn (dyWl_tail h)
    have hn' : p.2 + dySum l ≤ n := hn
    show dyDrs (p :: l) n k = dyDrs (p :: l) (p.2 + dySum l) k
    rw [dyDrs, dyDrs, if_neg (show ¬ n ≤ 0 by omega), if_neg (show ¬ p.2 + dySum l ≤ 0 by omega), dyDrs_am (n := n - p.2) (dyWl_tail h) (by omega), show p.2 + dySum l - p.2 = dySum l by omega]
    rw [if_pos (show p.2 ≤ n by omega), if_pos (show p.2 ≤ p.2 + dySum l by omega)]
-- memory
theorem dyRp_app {M : dsMem} {sa ma : Int} : ∀ {l r : dsL} {b : Int}, dyRp M sa ma b (l ++ r) ↔ dyRp M sa ma b l ∧ dyRp M sa ma (b + l.length) r
  | [], r, b => by simp [dyRp]
  | p :: l, r, b => by
    simp only [List.cons_append, dyRp, List.length_cons]
    rw [dyRp_app (l := l) (r := r), show b + ((l.length + 1 : Nat) : Int) = b + 1 + l.length by omega]
    constructor
    · rintro ⟨h1, h2, h3⟩; exact ⟨⟨h1, h2⟩, h3⟩
    · rintro ⟨⟨h1, h2⟩, h3⟩; exact ⟨h1, h2, h3⟩
theorem dyRp_congr {M M' : dsMem} {sa ma : Int} : ∀ {l : dsL} {b : Int}, (∀ j, b ≤ j → j < b + l.length → M' sa j = M sa j ∧ M' ma j = M ma j) → dyRp M sa ma b l → dyRp M' sa ma b l
  | [], _, _, _ => trivial
  | p :: l, b, h, hr => by
    simp only [List.length_cons] at h
    have h0 := h b (by omega) (by omega)
    exact ⟨⟨h0.1.trans hr.1.1, h0.2.trans hr.1.2⟩, dyRp_congr (fun j h1 h2 => h j (by omega) (by omega)) hr.2⟩
/-- only cells of P may differ -/
def Fr (P : Int → Int → Prop) (M M' : dsMem) : Prop := ∀ a j, ¬ P a j → M' a j = M a j
theorem Fr_refl {P : Int → Int → Prop} {M : dsMem} : Fr P M M := fun _ _ _ => rfl
theorem Fr_trans {P : Int → Int → Prop} {M M1 M2 : dsMem} (h1 : Fr P M M1) (h2 : Fr P M1 M2) : Fr P M M2 := fun a j h => (h2 a j h).trans (h1 a j h)
theorem Fr_mono {P P' : Int → Int → Prop} {M M1 : dsMem} (h : ∀ a j, P a j → P' a j) (h1 : Fr P M M1) : Fr P' M M1 := fun a j hn => h1 a j (fun hp => hn (h a j hp))
theorem dsSet_get (M : dsMem) (a i v b j : Int) : dsSet M a i v b j = if b = a ∧ j = i then v else M b j := by
  by_cases h : b = a
  · subst h
    by_cases hj : j = i
    · subst hj; rw [if_pos ⟨rfl, rfl⟩]; exact ds_get_eq
    · rw [if_neg (fun q => hj q.2)]; exact ds_get_ni hj
  · rw [if_neg (fun q => h q.1)]; exact ds_get_ne h
theorem ds_gn {M : dsMem} {a i v b j : Int} (h : b ≠ a ∨ j ≠ i) : dsSet M a i v b j = M b j := by
  rw [dsSet_get, if_neg (by omega)]
theorem ds_ge {M : dsMem} {a i v b j : Int} (h : b = a ∧ j = i) : dsSet M a i v b j = v := by
  rw [dsSet_get, if_pos h]
theorem Fr_set {P : Int → Int → Prop} {M M1 : dsMem} {a i v : Int} (h1 : Fr P M M1) (hp : P a i) : Fr P M (dsSet M1 a i v) := by
  intro b j hn
  rw [dsSet_get, if_neg (by rintro ⟨e1, e2⟩; subst e1; subst e2; exact hn hp)]
  exact h1 b j hn
-- states
abbrev dsS := (Int → dsL) × (Int → Int) × Int × Int × Int × (Int → Int → Int) × (Int → Int) × (Int → Int) × (Int → Int)
abbrev sL (S : dsS) : Int → dsL := S.1
abbrev sK (S : dsS) : Int → Int := S.2.1
abbrev sU (S : dsS) : Int := S.2.2.1
abbrev sX (S : dsS) : Int := S.2.2.2.1
abbrev sH (S : dsS) : Int := S.2.2.2.2.1
abbrev sB (S : dsS) : Int → Int → Int := S.2.2.2.2.2.1
abbrev sA (S : dsS) : Int → Int := S.2.2.2.2.2.2.1
abbrev sF (S : dsS) : Int → Int := S.2.2.2.2.2.2.2.1
abbrev sD (S : dsS) : Int → Int := S.2.2.2.2.2.2.2.2
abbrev mS (L : Int → dsL) (K : Int → Int) (U X H : Int) (B : Int → Int → Int) (A F D : Int → Int) : dsS := (L, K, U, X, H, B, A, F, D)
abbrev dsP := Int × Int × Int × Int × (Int → Int) × (Int → Int) × (Int → Int) × (Int → Int) × (Int → Int) × (Int → Bool) × (Int × (Int → Int → Option (Int × Int))) × (Int × (Int → Int → Option (Int × Int))) × (Int → Int → Bool)
abbrev pN (P : dsP) : Int := P.1
abbrev pW (P : dsP) : Int := P.2.1
abbrev pY (P : dsP) : Int := P.2.2.1
abbrev pL (P : dsP) : Int := P.2.2.2.1
abbrev pRoom (P : dsP) : Int → Int := P.2.2.2.2.1
abbrev pWide (P : dsP) : Int → Int := P.2.2.2.2.2.1
abbrev pOn (P : dsP) : Int → Int := P.2.2.2.2.2.2.1
abbrev pBears (P : dsP) : Int → Int := P.2.2.2.2.2.2.2.1
abbrev pGives (P : dsP) : Int → Int := P.2.2.2.2.2.2.2.2.1
abbrev pAl (P : dsP) : Int → Bool := P.2.2.2.2.2.2.2.2.2.1
abbrev pRn (P : dsP) : Int := P.2.2.2.2.2.2.2.2.2.2.1.1
abbrev pRf (P : dsP) : Int → Int → Option (Int × Int) := P.2.2.2.2.2.2.2.2.2.2.1.2
abbrev pTn (P : dsP) : Int := P.2.2.2.2.2.2.2.2.2.2.2.1.1
abbrev pTf (P : dsP) : Int → Int → Option (Int × Int) := P.2.2.2.2.2.2.2.2.2.2.2.1.2
abbrev pSv (P : dsP) : Int → Int → Bool := P.2.2.2.2.2.2.2.2.2.2.2.2
def dsUpd {α : Type} (f : Int → α) (i : Int) (v : α) : Int → α := fun j => if j = i then v else f j
theorem dsUpd_eq {α : Type} {f : Int → α} {i : Int} {v : α} : dsUpd f i v i = v := if_pos rfl
theorem dsUpd_ne {α : Type} {f : Int → α} {i j : Int} {v : α} (h : j ≠ i) : dsUpd f i v j = f j := if_neg h
/-- a bit stands -/
abbrev dsBit (x k : Int) : Prop := dsAnd (dsShr x k) 1 = 1
def dsMost (P : dsP) (l : dsL) (s : Int) : Int := if pL P = 3 then pRoom P s else pRoom P s - dySum l
def dsGoes (P : dsP) (l : dsL) (s n : Int) : Int := if n < dsMost P l s then n else dsMost P l s
def dsOver (P : dsP) (l : dsL) (s n : Int) : Int := dySum l + dsGoes P l s n - pRoom P s
def dsPourS (P : dsP) (S : dsS) (s k n : Int) : dsS :=
  mS (dsUpd (sL S) s (dyLay (dyDr (sL S s) (dsOver P (sL S s) s n)) k (dsGoes P (sL S s) s n))) (sK S) (sU S)
    (sX S + (if 0 < dsOver P (sL S s) s n then dsOver P (sL S s) s n else 0)) (sH S) (sB S) (sA S) (sF S) (dsUpd (sD S) s (sD S s + dsGoes P (sL S s) s n))
def dsPour (P : dsP) (S : dsS) (s k n : Int) : dsS × Int :=
  if dsGoes P (sL S s) s n ≤ 0 then (S, n) else (dsPourS P S s k n, n - dsGoes P (sL S s) s n)
abbrev dsComes (P : dsP) (first s : Int) : Prop := pL P = 2 ∨ (pL P = 1 ∧ pOn P first = pOn P s)
def dsDrkN (P : dsP) (first k : Int) : Nat → Int → dsS → Int → dsS × Int
  | 0, _, S, r => (S, r)
  | j + 1, s, S, r => if r ≤ 0 then (S, r) else
      if s = first ∨ dsComes P first s then
        if dsBit (sU S) (pOn P s) ∧ pAl P s = true then
          dsDrkN P first k j (s + 1) (dsPour P S s k r).1 (dsPour P S s k r).2
        else (S, r)
      else dsDrkN P first k j (s + 1) S r
def dsLose (S : dsS) (n : Int) : dsS := mS (sL S) (sK S) (sU S) (sX S + n) (sH S) (sB S) (sA S) (sF S) (sD S)
def dsDrink (P : dsP) (S : dsS) (first k n : Int) : dsS :=
  dsLose (dsDrkN P first k (pN P - first).toNat first S n).1 (dsDrkN P first k (pN P - first).toNat first S n).2
def dsRain (P : dsP) (k n : Int) (S : dsS) : dsS := dsIter (fun s S => dsDrink P S s k (n * pWide P s)) 0 (pN P) S
def dsTap (s n : Int) (S : dsS) : dsS :=
  mS (dsUpd (sL S) s (dyDr (sL S s) n)) (sK S) (sU S) (sX S) (sH S + dyAm (sL S s) n)
    (dsUpd (sB S) s (fun k => sB S s k + dyDrs (sL S s) n k)) (fun k => sA S k + dyDrs (sL S s) n k)
    (dsUpd (sF S) s (dsIter (fun k b => if 0 < dyDrs (sL S s) n k then dsOr b (dsShl 1 k) else b) 1 6 (sF S s))) (sD S)
def dsLoad (P : dsP) (S : dsS) (w : Int) : Int := dsIter (fun s a => if pOn P s = w then a + dySum (sL S s) else a) 0 (pN P) 0
def dsEmpty (S : dsS) (s n : Int) : dsS := mS (dsUpd (sL S) s []) (sK S) (sU S) (sX S + n) (sH S) (sB S) (sA S) (sF S) (sD S)
def dsDown (S : dsS) (w : Int) : dsS := mS (sL S) (sK S) (dsAnd (sU S) (dsXor (dsShl 1 w) (-1))) (sX S) (sH S) (sB S) (sA S) (sF S) (sD S)
def dsFell (P : dsP) (w : Int) (S : dsS) : dsS := dsIter (fun s S => if pOn P s = w then dsEmpty S s (dySum (sL S s)) else S) 0 (pN P) (dsDown S w)
def dsSunk (S : dsS) (w n : Int) : dsS := mS (sL S) (dsUpd (sK S) w (sK S w + n)) (sU S) (sX S) (sH S) (sB S) (sA S) (sF S) (sD S)
def dsSink (P : dsP) (w : Int) (S : dsS) : dsS :=
  if dsBit (sU S) w ∧ 0 < dsLoad P S w - pBears P w then
    if sK S w + ((dsLoad P S w - pBears P w) / 5 + 1) < pGives P w then dsSunk S w ((dsLoad P S w - pBears P w) / 5 + 1)
    else dsFell P w (dsSunk S w ((dsLoad P S w - pBears P w) / 5 + 1))
  else S
def dsSave (P : dsP) (y : Int) (S : dsS) : dsS := dsIter (fun s S => if pSv P y s = true then dsEmpty S s 0 else S) 0 (pN P) S
def dsRains (P : dsP) (y : Int) (S : dsS) : dsS := dsIter (fun i S => match pRf P y i with | some q => dsRain P q.1 q.2 S | none => S) 0 (pRn P) S
def dsTaps (P : dsP) (y : Int) (S : dsS) : dsS := dsIter (fun i S => match pTf P y i with | some q => dsTap q.1 q.2 S | none => S) 0 (pTn P) S
def dsSinks (P : dsP) (S : dsS) : dsS := dsIter (fun w S => dsSink P w S) 0 (pW P) S
def dyNew (S : dsS) : dsS := mS (sL S) (sK S) (sU S) 0 0 (sB S) (sA S) (sF S) (sD S)
def dsYear (P : dsP) (y : Int) (S : dsS) : dsS := dsSinks P (dsTaps P y (dsRains P y (dsSave P y (dyNew S))))
def dsStN (P : dsP) (S : dsS) (y : Int) : Nat → dsS
  | 0 => S
  | k + 1 => dsYear P (y + k) (dsStN P S y k)
