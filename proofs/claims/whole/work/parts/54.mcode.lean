def dnV (c a b : Int32) : Int32 := if c = 15 then a + b else if c = 16 then a - b else if c = 17 then a * b else if c = 13 then (if a < b then 1 else 0) else if c = 14 then (if a = b then 1 else 0) else if c = 11 then (if a = 0 then 0 else if b = 0 then 0 else 1) else (if a = 0 then (if b = 0 then 0 else 1) else 1)
def stp (F : Nat → Int32) (c : Int32) (s : List Int32) : Option (List Int32) :=
  if c < 0 then some ((-1 - c) :: s)
  else if c < 6 then some (F c.toNatClampNeg :: s)
  else if c = 12 then (match s with
    | x :: r => some ((if x = 0 then 1 else 0) :: r)
    | [] => none)
  else if c = 18 then (match s with
    | x :: r => some (-x :: r)
    | [] => none)
  else match s with
    | y :: x :: r => some (dnV c x y :: r)
    | _ => none
def rnC (F : Nat → Int32) (cs : List Int32) (s : Option (List Int32)) : Option (List Int32) := cs.foldl (fun s c => s.bind (stp F c)) s
def okC (c : Int32) : Prop := c < 0 ∨ ∃ o, c = nI o ∧ (o < 6 ∨ (10 ≤ o ∧ o ≤ 18))
/-- a row of codes that leaves one number -/
def MOK (m : Mem) (q : Nat) (cs : List Int32) : Prop := m 253 q = nI cs.length ∧ cs.length ≤ 160 ∧ (∀ k c, cs[k]? = some c → m 252 (160 * q + k) = c ∧ okC c) ∧ ∀ F, ∃ v, rnC F cs (some []) = some [v]
def mvl (F : Nat → Int32) (cs : List Int32) : Int32 := ((rnC F cs (some [])).getD []).headD 0
theorem rnC_none {F : Nat → Int32} (cs : List Int32) : rnC F cs none = none := by
  induction cs with
  | nil => rfl
  | cons a r ih => exact ih
theorem rnC_app {F : Nat → Int32} (a b : List Int32) (s : Option (List Int32)) : rnC F (a ++ b) s = rnC F b (rnC F a s) := by
  unfold rnC
  rw [List.foldl_append]
theorem rnC_take {F : Nat → Int32} {cs : List Int32} {s : Option (List Int32)} {v : List Int32} (h : rnC F cs s = some v) (i : Nat) : ∃ t, rnC F (cs.take i) s = some t := by
  rw [← List.take_append_drop i cs, rnC_app] at h
  cases ht : rnC F (cs.take i) s with
  | none => rw [ht, rnC_none] at h; cases h
  | some t => exact ⟨t, rfl⟩
theorem rnC_step {F : Nat → Int32} {cs : List Int32} {s : Option (List Int32)} {i : Nat} {c : Int32} (h : cs[i]? = some c) : rnC F (cs.take (i + 1)) s = (rnC F (cs.take i) s).bind (stp F c) := by
  rw [List.take_add_one, h, rnC_app]
  rfl
theorem stp_len {F : Nat → Int32} {c : Int32} {s t : List Int32} (h : stp F c s = some t) : t.length ≤ s.length + 1 := by
  unfold stp at h
  split at h
  · cases h; simp
  · split at h
    · cases h; simp
    · split at h
      · split at h
        · cases h; simp
        · cases h
      · split at h
        · split at h
          · cases h; simp
          · cases h
        · split at h
          · cases h; simp
          · cases h
theorem rnC_len {F : Nat → Int32} (cs : List Int32) : ∀ {s t : List Int32}, rnC F cs (some s) = some t → t.length ≤ s.length + cs.length := by
  induction cs with
  | nil => intro s t h; cases h; simp
  | cons a r ih =>
    intro s t h
    have h : rnC F r (stp F a s) = some t := h
    cases hs : stp F a s with
    | none => rw [hs, rnC_none] at h; cases h
    | some u =>
      rw [hs] at h
      have := ih h
      have := stp_len hs
      rw [List.length_cons]
      omega
theorem stp_congr {F F' : Nat → Int32} {c : Int32} (hc : okC c) (h : ∀ k, k < 6 → F k = F' k) (s : List Int32) : stp F c s = stp F' c s := by
  unfold stp
  by_cases h0 : c < 0
  · rw [if_pos h0, if_pos h0]
  · rw [if_neg h0, if_neg h0]
    by_cases h6 : c < 6
    · rw [if_pos h6, if_pos h6]
      obtain ⟨j, hj, rfl⟩ := nI_of h0
      rw [nI_clamp hj, h j ((nI_ltI (b := 6) hj (by decide)).mp h6)]
    · rw [if_neg h6, if_neg h6]
theorem rnC_congr {F F' : Nat → Int32} (h : ∀ k, k < 6 → F k = F' k) (cs : List Int32) : (∀ c ∈ cs, okC c) → ∀ s, rnC F cs s = rnC F' cs s := by
  induction cs with
  | nil => intro _ s; rfl
  | cons a r ih =>
    intro hc s
    show rnC F r (s.bind (stp F a)) = rnC F' r (s.bind (stp F' a))
    have e : s.bind (stp F a) = s.bind (stp F' a) := by
      cases s with
      | none => rfl
      | some t => exact stp_congr (hc a List.mem_cons_self) h t
    rw [e]
    exact ih (fun c q => hc c (List.mem_cons_of_mem _ q)) _
/-- the stack, its top first -/
def RSt (g : Nat → Int32) (s : List Int32) : Prop := ∀ k x, s[k]? = some x → g (s.length - 1 - k) = x
theorem RSt_push {g : Nat → Int32} {s : List Int32} {v : Int32} (h : RSt g s) : RSt (upd g s.length v) (v :: s) := by
  intro k x hk
  cases k with
  | zero => cases hk; simp [upd]
  | succ k =>
    have hk : s[k]? = some x := hk
    have hlt := (List.getElem?_eq_some_iff.mp hk).1
    rw [List.length_cons, show s.length + 1 - 1 - (k + 1) = s.length - 1 - k by omega]
    simp only [upd]
    rw [if_neg (by omega)]
    exact h k x hk
theorem RSt_top {g : Nat → Int32} {x v : Int32} {r : List Int32} (h : RSt g (x :: r)) : RSt (upd g r.length v) (v :: r) := by
  intro k y hk
  cases k with
  | zero => cases hk; simp [upd]
  | succ k =>
    have hk : r[k]? = some y := hk
    have hlt := (List.getElem?_eq_some_iff.mp hk).1
    have := h (k + 1) y hk
    rw [List.length_cons] at this ⊢
    simp only [upd]
    rw [if_neg (by omega)]
    exact this
theorem RSt_two {g : Nat → Int32} {x y v : Int32} {r : List Int32} (h : RSt g (y :: x :: r)) : RSt (upd g r.length v) (v :: r) := by
  refine RSt_top (x := x) (fun k z hk => ?_)
  have := h (k + 1) z hk
  rw [List.length_cons, List.length_cons] at this
  rw [List.length_cons, show r.length + 1 - 1 - k = r.length + 1 + 1 - 1 - (k + 1) by omega]
  exact this
theorem c_Mdone {l : Launch} {X : XT} {d : Nat} {o : Nat} {a b : Int32} {m : Mem} (ho : 10 ≤ o) (ho2 : o ≤ 17) (h12 : o ≠ 12) : Meth l X d M_X11_done [vI (nI o), vI a, vI b] m (fun r m' => r = some (vI (dnV (nI o) a b)) ∧ m' = m) := by
  refine E_X11_done (ls := [vI (nI o), vI a, vI b]) rfl rfl ?_
  repeat refine AW.s rfl ?_
  try dsimp only [List.set_cons_zero, List.set_cons_succ, Option.toList_some, Option.toList_none, List.cons_append, List.nil_append]
  have hc7 : o = 10 ∨ o = 11 ∨ o = 13 ∨ o = 14 ∨ o = 15 ∨ o = 16 ∨ o = 17 := by omega
  rcases hc7 with e | e | e | e | e | e | e <;> subst e
  · refine AW.tout (tgt := 92) rfl (by decide) (by decide) ?_
    have hd : dnV (nI 10) a b = if a = 0 then (if b = 0 then 0 else 1) else 1 := rfl
    rw [hd]
    repeat refine AW.s rfl ?_
    try dsimp only [List.set_cons_zero, List.set_cons_succ, Option.toList_some, Option.toList_none, List.cons_append, List.nil_append]
    refine AW.b rfl (fun hc => ?_) (fun hc => ?_)
    · have e1 := hc
      repeat refine AW.s rfl ?_
      try dsimp only [List.set_cons_zero, List.set_cons_succ, Option.toList_some, Option.toList_none, List.cons_append, List.nil_append]
      refine AW.b rfl (fun hc => ?_) (fun hc => ?_)
      · have e2 := hc
        repeat refine AW.s rfl ?_
        try dsimp only [List.set_cons_zero, List.set_cons_succ, Option.toList_some, Option.toList_none, List.cons_append, List.nil_append]
        exact AW.ri rfl rfl rfl ⟨by rw [if_pos e1, if_pos e2], rfl⟩
      · have e2 := hc
        repeat refine AW.s rfl ?_
        try dsimp only [List.set_cons_zero, List.set_cons_succ, Option.toList_some, Option.toList_none, List.cons_append, List.nil_append]
        exact AW.ri rfl rfl rfl ⟨by rw [if_pos e1, if_neg e2], rfl⟩
    · have e1 := hc
      repeat refine AW.s rfl ?_
      try dsimp only [List.set_cons_zero, List.set_cons_succ, Option.toList_some, Option.toList_none, List.cons_append, List.nil_append]
      exact AW.ri rfl rfl rfl ⟨by rw [if_neg e1], rfl⟩
  · refine AW.tin (tgt := 78) rfl (by decide) (by decide) rfl (by decide) ?_
    have hd : dnV (nI 11) a b = if a = 0 then 0 else if b = 0 then 0 else 1 := rfl
    rw [hd]
    repeat refine AW.s rfl ?_
    try dsimp only [List.set_cons_zero, List.set_cons_succ, Option.toList_some, Option.toList_none, List.cons_append, List.nil_append]
    refine AW.b rfl (fun hc => ?_) (fun hc => ?_)
    · have e1 := hc
      repeat refine AW.s rfl ?_
      try dsimp only [List.set_cons_zero, List.set_cons_succ, Option.toList_some, Option.toList_none, List.cons_append, List.nil_append]
      exact AW.ri rfl rfl rfl ⟨by rw [if_pos e1], rfl⟩
    · have e1 := hc
      repeat refine AW.s rfl ?_
      try dsimp only [List.set_cons_zero, List.set_cons_succ, Option.toList_some, Option.toList_none, List.cons_append, List.nil_append]
      refine AW.b rfl (fun hc => ?_) (fun hc => ?_)
      · have e2 := hc
        repeat refine AW.s rfl ?_
        try dsimp only [List.set_cons_zero, List.set_cons_succ, Option.toList_some, Option.toList_none, List.cons_append, List.nil_append]
        exact AW.ri rfl rfl rfl ⟨by rw [if_neg e1, if_pos e2], rfl⟩
      · have e2 := hc
        repeat refine AW.s rfl ?_
        try dsimp only [List.set_cons_zero, List.set_cons_succ, Option.toList_some, Option.toList_none, List.cons_append, List.nil_append]
        exact AW.ri rfl rfl rfl ⟨by rw [if_neg e1, if_neg e2], rfl⟩
  · refine AW.tin (tgt := 56) rfl (by decide) (by decide) rfl (by decide) ?_
    have hd : dnV (nI 13) a b = if a < b then 1 else 0 := rfl
    rw [hd]
    repeat refine AW.s rfl ?_
    try dsimp only [List.set_cons_zero, List.set_cons_succ, Option.toList_some, Option.toList_none, List.cons_append, List.nil_append]
    refine AW.b rfl (fun hc => ?_) (fun hc => ?_)
    · have e1 := hc
      repeat refine AW.s rfl ?_
      try dsimp only [List.set_cons_zero, List.set_cons_succ, Option.toList_some, Option.toList_none, List.cons_append, List.nil_append]
      exact AW.ri rfl rfl rfl ⟨by rw [if_pos e1], rfl⟩
    · have e1 := hc
      repeat refine AW.s rfl ?_
      try dsimp only [List.set_cons_zero, List.set_cons_succ, Option.toList_some, Option.toList_none, List.cons_append, List.nil_append]
      exact AW.ri rfl rfl rfl ⟨by rw [if_neg e1], rfl⟩
  · refine AW.tin (tgt := 67) rfl (by decide) (by decide) rfl (by decide) ?_
    have hd : dnV (nI 14) a b = if a = b then 1 else 0 := rfl
    rw [hd]
    repeat refine AW.s rfl ?_
    try dsimp only [List.set_cons_zero, List.set_cons_succ, Option.toList_some, Option.toList_none, List.cons_append, List.nil_append]
    refine AW.b rfl (fun hc => ?_) (fun hc => ?_)
    · have e1 := hc
      repeat refine AW.s rfl ?_
      try dsimp only [List.set_cons_zero, List.set_cons_succ, Option.toList_some, Option.toList_none, List.cons_append, List.nil_append]
      exact AW.ri rfl rfl rfl ⟨by rw [if_pos e1], rfl⟩
    · have e1 := hc
      repeat refine AW.s rfl ?_
      try dsimp only [List.set_cons_zero, List.set_cons_succ, Option.toList_some, Option.toList_none, List.cons_append, List.nil_append]
      exact AW.ri rfl rfl rfl ⟨by rw [if_neg e1], rfl⟩
  · refine AW.tin (tgt := 44) rfl (by decide) (by decide) rfl (by decide) ?_
    repeat refine AW.s rfl ?_
    try dsimp only [List.set_cons_zero, List.set_cons_succ, Option.toList_some, Option.toList_none, List.cons_append, List.nil_append]
    exact AW.ri rfl rfl rfl ⟨rfl, rfl⟩
  · refine AW.tin (tgt := 48) rfl (by decide) (by decide) rfl (by decide) ?_
    repeat refine AW.s rfl ?_
    try dsimp only [List.set_cons_zero, List.set_cons_succ, Option.toList_some, Option.toList_none, List.cons_append, List.nil_append]
    exact AW.ri rfl rfl rfl ⟨rfl, rfl⟩
  · refine AW.tin (tgt := 52) rfl (by decide) (by decide) rfl (by decide) ?_
    repeat refine AW.s rfl ?_
    try dsimp only [List.set_cons_zero, List.set_cons_succ, Option.toList_some, Option.toList_none, List.cons_append, List.nil_append]
    exact AW.ri rfl rfl rfl ⟨rfl, rfl⟩
