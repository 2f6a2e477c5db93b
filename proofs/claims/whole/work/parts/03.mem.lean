abbrev AV : Type := Int32 ⊕ (Int64 ⊕ (Nat × Nat))
abbrev vI (x : Int32) : AV := .inl x
abbrev vJ (x : Int64) : AV := .inr (.inl x)
abbrev vR (t h : Nat) : AV := .inr (.inr (t, h))
abbrev vU : AV := .inr (.inr (0, 0))
/-- what the cells hold, by handle and slot -/
abbrev Mem : Type := Nat → Nat → Int32
def mSr (m : Mem) (h : Nat) (f : Nat → Int32) : Mem := fun a => if a = h then f else m a
def mUp (m : Mem) (h k : Nat) (x : Int32) : Mem := mSr m h (upd (m h) k x)
theorem mSr_s (m : Mem) (h : Nat) (f : Nat → Int32) : mSr m h f h = f := if_pos rfl
theorem mSr_n {m : Mem} {h a : Nat} {f : Nat → Int32} (n : a ≠ h) : mSr m h f a = m a := if_neg n
theorem mUp_s (m : Mem) (h k : Nat) (x : Int32) : mUp m h k x h k = x := by simp [mUp, mSr, upd]
theorem mUp_n {m : Mem} {h k a j : Nat} {x : Int32} (n : a ≠ h ∨ j ≠ k) : mUp m h k x a j = m a j := by
  unfold mUp mSr
  by_cases e : a = h
  · subst e
    rcases n with n | n
    · exact absurd rfl n
    · simp [upd, n]
  · simp [e]
theorem mUp_a {m : Mem} {h k a : Nat} {x : Int32} (n : a ≠ h) : mUp m h k x a = m a := mSr_n n
/-- type of the cell with that handle -/
def layT (h : Nat) : Nat := LAY.getD h 0
def shp (t : Nat) : List (Nat × Nat) := SHP.getD t []
def RTB : List (Nat × Nat × Nat × Nat) := [(6, 164, 6, 10), (4, 193, 2, 7), (8, 1, 2, 5), (7, 5, 18, 6), (8, 1, 1, 1010)]
def rtb (t : Nat) : Nat × Nat × Nat × Nat := RTB.getD (t - 20) (0, 0, 0, 0)
def rlen (t : Nat) : Nat := (rtb t).1
def roff (t : Nat) : Nat := (rtb t).2.1
def rstr (t : Nat) : Nat := (rtb t).2.2.1
def rty (t : Nat) : Nat := (rtb t).2.2.2
/-- first cell, how many, classes and slots, array classes, other addresses, the script -/
abbrev XT : Type := Nat × Nat × va_G × (Nat → ClassId) × (Nat → Nat) × (Nat × (Nat → Int32))
def xb (X : XT) : Nat := X.1
def xN (X : XT) : Nat := X.2.1
def xD (X : XT) : va_G := X.2.2.1
def xc (X : XT) : Nat → ClassId := X.2.2.2.1
def xa (X : XT) : Nat → Nat := X.2.2.2.2.1
def isX (t : Nat) : Bool := t == 50 || (t == 51 || t == 52)
def aof (X : XT) (t h : Nat) : Nat := if isX t then xa X (if t = 50 then h else if t = 51 then 100 else 101) else xb X + h
def cv (X : XT) (v : AV) : Value := match v with
  | .inl x => .int x
  | .inr (.inl x) => .long x
  | .inr (.inr q) => .ref (aof X q.1 q.2)
/-- in the world: nothing known, or outside it, or a cell of that type -/
def okr (X : XT) (t h : Nat) : Prop := t = 0 ∨ (isX t = true ∧ (t = 50 → h < 14 ∨ 200 ≤ h)) ∨ (isX t = false ∧ h < xN X ∧ layT h = t)
def okv (X : XT) (v : AV) : Prop := match v with
  | .inl _ => True
  | .inr (.inl _) => True
  | .inr (.inr q) => okr X q.1 q.2
def okl (X : XT) (vs : List AV) : Prop := ∀ v ∈ vs, okv X v
def slotV (X : XT) (m : Mem) (h k : Nat) (q : Nat × Nat) : Value :=
  if q.1 = 0 then .int (m h k) else if q.2 = 9999 then (if (m h k).toNatClampNeg = 0 then .null else .ref (xb X + (m h k).toNatClampNeg)) else .ref (xb X + (h + q.2))
def fsOf (X : XT) (m : Mem) (h t : Nat) : List Value := (List.range (shp t).length).map (fun k => slotV X m h k ((shp t).getD k (0, 0)))
def celE (X : XT) (m : Mem) (h : Nat) : va_E :=
  if layT h < 20 then .inr (layT h - 1, fsOf X m h (layT h))
  else if layT h < 50 then .inl (xc X (layT h), rlen (layT h), .inr (.inr (.inr (.inr (fun i => some (xb X + (h + roff (layT h) + rstr (layT h) * i)))))))
  else if layT h < 4000 then .inl (xc X 0, layT h - 1000, .inl (m h))
  else if layT h < 5000 then .inl (xc X 1, layT h - 4000, .inl (m h))
  else .inl (xc X 2, layT h - 5000, .inl (m h))
def wsOf (X : XT) (m : Mem) : va_W := (List.range (xN X)).map (fun h => (xb X + h, celE X m h))
def xA (X : XT) : Nat → Prop := fun q => xb X ≤ q
def tysOf (X : XT) : List (ClassId × FieldType) := [(xc X 0, .int), (xc X 1, .boolean), (xc X 2, .char), (xc X 20, .object RX9), (xc X 21, .object RX6), (xc X 22, .object RX4), (xc X 23, .object RX5), (xc X 24, .array .int)]
theorem ws_get (X : XT) (m : Mem) {h : Nat} (hh : h < xN X) : (wsOf X m)[h]? = some (xb X + h, celE X m h) := by
  simp [wsOf, List.getElem?_range hh]
theorem ws_len (X : XT) (m : Mem) : (wsOf X m).length = xN X := by simp [wsOf]
theorem celE_ne {X : XT} {m : Mem} {h a : Nat} {f : Nat → Int32} (n : a ≠ h) : celE X (mSr m h f) a = celE X m a := by
  have e : mSr m h f a = m a := mSr_n n
  have e2 : fsOf X (mSr m h f) a (layT a) = fsOf X m a (layT a) := by
    unfold fsOf
    refine List.map_congr_left fun k _ => ?_
    unfold slotV
    rw [e]
  unfold celE
  rw [e, e2]
theorem ws_row (X : XT) (m : Mem) (h : Nat) (f : Nat → Int32) : wsOf X (mSr m h f) = (wsOf X m).set h (xb X + h, celE X (mSr m h f) h) := by
  apply List.ext_getElem?
  intro j
  by_cases hj : j < xN X
  · rw [ws_get X _ hj, List.getElem?_set]
    by_cases e : h = j
    · subst e
      rw [if_pos rfl, if_pos (by rw [ws_len]; exact hj)]
    · rw [if_neg e, ws_get X _ hj, celE_ne (fun q => e q.symm)]
  · rw [List.getElem?_eq_none (by rw [ws_len]; omega), List.getElem?_eq_none (by rw [List.length_set, ws_len]; omega)]
theorem ws_D (X : XT) (m : Mem) : va_D (xA X) (wsOf X m) := by
  refine ⟨fun i j p q hp hq e => ?_, fun k q hq => ?_⟩
  · have hi : i < xN X := by
      have := (List.getElem?_eq_some_iff.mp hp).1
      rwa [ws_len] at this
    have hj : j < xN X := by
      have := (List.getElem?_eq_some_iff.mp hq).1
      rwa [ws_len] at this
    rw [ws_get X m hi] at hp
    rw [ws_get X m hj] at hq
    cases hp
    cases hq
    have e : xb X + i = xb X + j := e
    omega
  · have hk : k < xN X := by
      have := (List.getElem?_eq_some_iff.mp hq).1
      rwa [ws_len] at this
    rw [ws_get X m hk] at hq
    cases hq
    exact Nat.le_add_right _ _
/-- locals: what is known of each place -/
def unk (v : AV) : Bool := match v with
  | .inr (.inr q) => q.1 == 0
  | _ => false
def lRep (X : XT) (ls : List AV) (la : Array Slot) : Prop := la.size = ls.length ∧ lv_wf la ∧ ∀ (k : Nat) (v : AV), ls[k]? = some v → unk v = false → la[k]? = some (.val (cv X v))
def asc (X : XT) (ls : List AV) : List (Nat × Value) := (List.range ls.length).filterMap (fun k => match ls[k]? with
  | some v => if unk v then none else some (k, cv X v)
  | none => none)
theorem asc_mem {X : XT} {ls : List AV} {q : Nat × Value} : q ∈ asc X ls ↔ ∃ v, ls[q.1]? = some v ∧ unk v = false ∧ q.2 = cv X v := by
  unfold asc
  rw [List.mem_filterMap]
  constructor
  · rintro ⟨k, -, hk⟩
    cases hl : ls[k]? with
    | none => simp [hl] at hk
    | some v =>
      simp only [hl] at hk
      by_cases hu : unk v = true
      · simp [hu] at hk
      · simp only [hu] at hk
        cases hk
        exact ⟨v, hl, by simpa using hu, rfl⟩
  · rintro ⟨v, h1, h2, h3⟩
    refine ⟨q.1, List.mem_range.mpr (List.getElem?_eq_some_iff.mp h1).1, ?_⟩
    simp only [h1, h2]
    cases q
    cases h3
    rfl
theorem lRep_has {X : XT} {ls : List AV} {la : Array Slot} (h : lRep X ls la) : lv_has la ls.length (asc X ls) := by
  refine ⟨h.1, h.2.1, fun q hq => ?_⟩
  obtain ⟨v, h1, h2, h3⟩ := asc_mem.mp hq
  rw [h3]
  exact h.2.2 _ _ h1 h2
theorem lRep_of {X : XT} {ls : List AV} {la : Array Slot} {nL : Nat} {l : List (Nat × Value)} (h : lv_has la nL l) (hn : nL = ls.length) (hs : ∀ (k : Nat) (v : AV), ls[k]? = some v → unk v = false → (k, cv X v) ∈ l) : lRep X ls la :=
  ⟨h.1.trans hn, h.2.1, fun k v h1 h2 => h.2.2 (k, cv X v) (hs k v h1 h2)⟩
theorem lRep_get {X : XT} {ls : List AV} {la : Array Slot} (h : lRep X ls la) {k : Nat} {v : AV} (hk : ls.getD k vU = v) (hu : unk v = false) : la[k]? = some (.val (cv X v)) := by
  rw [List.getD_eq_getElem?_getD] at hk
  cases hl : ls[k]? with
  | none =>
    rw [hl] at hk
    subst hk
    simp [unk] at hu
  | some w =>
    rw [hl] at hk
    have hk : w = v := hk
    subst hk
    exact h.2.2 k w hl hu
/-- nothing of two words ends at k -/
def noL (ls : List AV) (k : Nat) : Bool := match k with
  | 0 => true
  | j + 1 => match ls[j]? with
    | some (.inr (.inl _)) => false
    | _ => true
theorem cat_I (X : XT) (x : Int32) : (cv X (vI x)).category = 1 := rfl
theorem cat_2 {X : XT} {v : AV} (h : (cv X v).category = 2) : ∃ x, v = vJ x := by
  rcases v with x | x | q
  · cases h
  · exact ⟨x, rfl⟩
  · cases h
theorem lRep_set {X : XT} {ls : List AV} {la : Array Slot} {i : Nat} {v : AV} (hi : i < ls.length) (hno : noL ls i = true)
    (h : lv_has la ls.length ((i, cv X v) :: (asc X ls).filter (fun q => !(q.1 == i) && !(q.1 + 1 == i && q.2.category == 2)))) : lRep X (ls.set i v) la := by
  refine lRep_of h (by simp) (fun k w hk hu => ?_)
  rw [List.getElem?_set] at hk
  by_cases e : i = k
  · subst e
    rw [if_pos rfl, if_pos hi] at hk
    cases hk
    exact List.mem_cons_self
  · rw [if_neg e] at hk
    refine List.mem_cons_of_mem _ (List.mem_filter.mpr ⟨asc_mem.mpr ⟨w, hk, hu, rfl⟩, ?_⟩)
    have e1 : ¬ k = i := fun q => e q.symm
    by_cases e2 : k + 1 = i
    · have hc : ¬ (cv X w).category = 2 := by
        intro h2
        obtain ⟨x, rfl⟩ := cat_2 h2
        subst e2
        simp [noL, hk] at hno
      simp [e1, hc]
    · simp [e1, e2]
theorem lRep_set2 {X : XT} {ls : List AV} {la : Array Slot} {i : Nat} {v : AV} (hi : i + 1 < ls.length) (hno : noL ls i = true)
    (h : lv_has la ls.length ((i, cv X v) :: (asc X ls).filter (fun q => !(q.1 == i) && (!(q.1 == i + 1) && !(q.1 + 1 == i && q.2.category == 2))))) : lRep X ((ls.set i v).set (i + 1) vU) la := by
  refine lRep_of h (by simp) (fun k w hk hu => ?_)
  rw [List.getElem?_set] at hk
  by_cases e : i + 1 = k
  · subst e
    rw [if_pos rfl, if_pos (by simpa using hi)] at hk
    cases hk
    simp [unk] at hu
  · rw [if_neg e, List.getElem?_set] at hk
    by_cases e0 : i = k
    · subst e0
      rw [if_pos rfl, if_pos (by omega)] at hk
      cases hk
      exact List.mem_cons_self
    · rw [if_neg e0] at hk
      refine List.mem_cons_of_mem _ (List.mem_filter.mpr ⟨asc_mem.mpr ⟨w, hk, hu, rfl⟩, ?_⟩)
      have e1 : ¬ k = i := fun q => e0 q.symm
      have e3 : ¬ k = i + 1 := fun q => e q.symm
      by_cases e2 : k + 1 = i
      · have hc : ¬ (cv X w).category = 2 := by
          intro h2
          obtain ⟨x, rfl⟩ := cat_2 h2
          subst e2
          simp [noL, hk] at hno
        simp [e1, e3, hc]
      · simp [e1, e2, e3]
