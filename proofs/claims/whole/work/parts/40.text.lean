/-- what a cell of a text is worked out to -/
def wkN (o : Nat) (l r : Int32) (v f : Nat → Int32) : Int32 := match o with
  | 0 => l
  | 1 => f l.toNatClampNeg
  | 2 => if v l.toNatClampNeg = 0 then (if v r.toNatClampNeg = 0 then 0 else 1) else 1
  | 3 => if v l.toNatClampNeg = 0 then 0 else (if v r.toNatClampNeg = 0 then 0 else 1)
  | 4 => if v l.toNatClampNeg = 0 then 1 else 0
  | 5 => if v l.toNatClampNeg < v r.toNatClampNeg then 1 else 0
  | 6 => if v l.toNatClampNeg = v r.toNatClampNeg then 1 else 0
  | 7 => v l.toNatClampNeg + v r.toNatClampNeg
  | 8 => v l.toNatClampNeg - v r.toNatClampNeg
  | 9 => v l.toNatClampNeg * v r.toNatClampNeg
  | _ => -v l.toNatClampNeg
theorem wk_2 {l r : Int32} {v f : Nat → Int32} : wkN 2 l r v f = (if v l.toNatClampNeg = 0 then (if v r.toNatClampNeg = 0 then 0 else 1) else 1) := rfl
theorem wk_3 {l r : Int32} {v f : Nat → Int32} : wkN 3 l r v f = (if v l.toNatClampNeg = 0 then 0 else (if v r.toNatClampNeg = 0 then 0 else 1)) := rfl
theorem wk_4 {l r : Int32} {v f : Nat → Int32} : wkN 4 l r v f = (if v l.toNatClampNeg = 0 then 1 else 0) := rfl
theorem wk_5 {l r : Int32} {v f : Nat → Int32} : wkN 5 l r v f = (if v l.toNatClampNeg < v r.toNatClampNeg then 1 else 0) := rfl
theorem wk_6 {l r : Int32} {v f : Nat → Int32} : wkN 6 l r v f = (if v l.toNatClampNeg = v r.toNatClampNeg then 1 else 0) := rfl
theorem wk_7 {l r : Int32} {v f : Nat → Int32} : wkN 7 l r v f = (v l.toNatClampNeg + v r.toNatClampNeg) := rfl
theorem wk_8 {l r : Int32} {v f : Nat → Int32} : wkN 8 l r v f = (v l.toNatClampNeg - v r.toNatClampNeg) := rfl
theorem wk_9 {l r : Int32} {v f : Nat → Int32} : wkN 9 l r v f = (v l.toNatClampNeg * v r.toNatClampNeg) := rfl
theorem wk_10 {l r : Int32} {v f : Nat → Int32} : wkN 10 l r v f = (-v l.toNatClampNeg) := rfl
def celOK (o : Nat) (l r : Int32) (s i : Nat) : Prop := o ≤ 10 ∧ (o = 1 → ∃ j, j < 6 ∧ l = nI j) ∧ (2 ≤ o → ∃ j, s ≤ j ∧ j < i ∧ l = nI j) ∧ (2 ≤ o → o ≠ 4 → o ≠ 10 → ∃ j, s ≤ j ∧ j < i ∧ r = nI j)
theorem o11 {o : Nat} (h : o ≤ 10) : o = 0 ∨ o = 1 ∨ o = 2 ∨ o = 3 ∨ o = 4 ∨ o = 5 ∨ o = 6 ∨ o = 7 ∨ o = 8 ∨ o = 9 ∨ o = 10 := by omega
theorem wkN_congr {o s i : Nat} {l r : Int32} {v v' f f' : Nat → Int32} (h : celOK o l r s i) (hi : i ≤ 160) (hv : ∀ j, s ≤ j → j < i → v j = v' j) (hf : ∀ j, j < 6 → f j = f' j) : wkN o l r v f = wkN o l r v' f' := by
  obtain ⟨h0, h1, h2, h3⟩ := h
  have hl : 2 ≤ o → v l.toNatClampNeg = v' l.toNatClampNeg := by
    intro q
    obtain ⟨j, a, b, rfl⟩ := h2 q
    rw [nI_clamp (by omega)]
    exact hv j a b
  have hr : 2 ≤ o → o ≠ 4 → o ≠ 10 → v r.toNatClampNeg = v' r.toNatClampNeg := by
    intro q q4 q10
    obtain ⟨j, a, b, rfl⟩ := h3 q q4 q10
    rw [nI_clamp (by omega)]
    exact hv j a b
  rcases o11 h0 with e | e | e | e | e | e | e | e | e | e | e <;> subst e
  · rfl
  · obtain ⟨j, a, rfl⟩ := h1 rfl
    show f _ = f' _
    rw [nI_clamp (by omega)]
    exact hf j a
  · rw [wk_2, wk_2, hl (by decide), hr (by decide) (by decide) (by decide)]
  · rw [wk_3, wk_3, hl (by decide), hr (by decide) (by decide) (by decide)]
  · rw [wk_4, wk_4, hl (by decide)]
  · rw [wk_5, wk_5, hl (by decide), hr (by decide) (by decide) (by decide)]
  · rw [wk_6, wk_6, hl (by decide), hr (by decide) (by decide) (by decide)]
  · rw [wk_7, wk_7, hl (by decide), hr (by decide) (by decide) (by decide)]
  · rw [wk_8, wk_8, hl (by decide), hr (by decide) (by decide) (by decide)]
  · rw [wk_9, wk_9, hl (by decide), hr (by decide) (by decide) (by decide)]
  · rw [wk_10, wk_10, hl (by decide)]
def cvF (op lf rt f : Nat → Int32) (n : Nat) (i : Nat) : Int32 := match n with
  | 0 => 0
  | n + 1 => wkN (op i).toNatClampNeg (lf i) (rt i) (cvF op lf rt f n) f
def rngOK (op lf rt : Nat → Int32) (s e : Nat) : Prop := ∀ i, s ≤ i → i < e → ∃ o, op i = nI o ∧ celOK o (lf i) (rt i) s i
theorem cvF_st {op lf rt f f' : Nat → Int32} {s e : Nat} (h : rngOK op lf rt s e) (he : e ≤ 160) (hf : ∀ j, j < 6 → f j = f' j) : ∀ i, s ≤ i → i < e → ∀ n n', i < n → i < n' → cvF op lf rt f n i = cvF op lf rt f' n' i := by
  intro i
  induction i using Nat.strongRecOn with
  | ind i ih =>
    intro hs hi n n' hn hn'
    obtain ⟨a, rfl⟩ : ∃ a, n = a + 1 := ⟨n - 1, by omega⟩
    obtain ⟨b, rfl⟩ : ∃ b, n' = b + 1 := ⟨n' - 1, by omega⟩
    obtain ⟨o, ho, hc⟩ := h i hs hi
    show wkN (op i).toNatClampNeg _ _ _ _ = wkN (op i).toNatClampNeg _ _ _ _
    rw [ho, nI_clamp (by have := hc.1; omega)]
    exact wkN_congr hc (by omega) (fun j h1 h2 => ih j h2 h1 (by omega) a b (by omega) (by omega)) hf
/-- a text that was read: where its parts end, each part's cells stand on cells of that part -/
def sta (en : Nat → Nat) (p : Nat) : Nat := if p = 0 then 0 else en (p - 1)
def TOK (m : Mem) (T : Nat) (en : Nat → Nat) : Prop := (∀ p, p < 3 → m (T + 5) p = nI (en p) ∧ sta en p < en p ∧ en p ≤ 160 ∧ rngOK (m (T + 1)) (m (T + 2)) (m (T + 3)) (sta en p) (en p))
def tval (m : Mem) (T : Nat) (en : Nat → Nat) (p : Nat) (f : Nat → Int32) : Int32 := cvF (m (T + 1)) (m (T + 2)) (m (T + 3)) f (en p) (en p - 1)
def clI (v : Int32) : Int32 := if 0 < (if v < 99 then v else 99) then (if v < 99 then v else 99) else 0
set_option maxRecDepth 4000 in
theorem c_worked {l : Launch} {X : XT} {d : Nat} {T F o s i : Nat} {lf rt : Int32} {m : Mem} (hc0 : celOK o lf rt s i) (hi : i ≤ 160) : Meth l X d M_X9_worked [vR 10 T, vI (nI o), vI lf, vI rt, vR 1006 F] m (fun r1 m' => r1 = some (vI (wkN o lf rt (m (T + 4)) (m F))) ∧ m' = m) := by
  obtain ⟨h0, h1, h2, h3⟩ := hc0
  refine E_X9_worked (ls := [vR 10 T, vI (nI o), vI lf, vI rt, vR 1006 F]) rfl rfl ?_
  repeat refine AW.s rfl ?_
  try dsimp only [List.set_cons_zero, List.set_cons_succ, Option.toList_some, Option.toList_none, List.cons_append, List.nil_append]
  have hL : 2 ≤ o → vp_in lf 160 := by
    intro q
    obtain ⟨j, _, b, rfl⟩ := h2 q
    exact vp_in_nI (by omega) (by decide)
  have hR : 2 ≤ o → o ≠ 4 → o ≠ 10 → vp_in rt 160 := by
    intro q q4 q10
    obtain ⟨j, _, b, rfl⟩ := h3 q q4 q10
    exact vp_in_nI (by omega) (by decide)
  rcases o11 h0 with e | e | e | e | e | e | e | e | e | e | e <;> subst e
  · refine AW.tin (tgt := 56) rfl (by decide) (by decide) rfl (by decide) ?_
    repeat refine AW.s rfl ?_
    try dsimp only [List.set_cons_zero, List.set_cons_succ, Option.toList_some, Option.toList_none, List.cons_append, List.nil_append]
    exact AW.ri rfl rfl rfl ⟨rfl, rfl⟩
  · refine AW.tin (tgt := 58) rfl (by decide) (by decide) rfl (by decide) ?_
    repeat refine AW.s rfl ?_
    try dsimp only [List.set_cons_zero, List.set_cons_succ, Option.toList_some, Option.toList_none, List.cons_append, List.nil_append]
    obtain ⟨j, hj, rfl⟩ := h1 rfl
    refine AW.c rfl (vp_in_nI (by omega) (by decide)) ?_
    try dsimp only [List.set_cons_zero, List.set_cons_succ, Option.toList_some, Option.toList_none, List.cons_append, List.nil_append]
    exact AW.ri rfl rfl rfl ⟨rfl, rfl⟩
  · refine AW.tin (tgt := 63) rfl (by decide) (by decide) rfl (by decide) ?_
    repeat refine AW.s rfl ?_
    try dsimp only [List.set_cons_zero, List.set_cons_succ, Option.toList_some, Option.toList_none, List.cons_append, List.nil_append]
    refine AW.c rfl (hL (by decide)) ?_
    try dsimp only [List.set_cons_zero, List.set_cons_succ, Option.toList_some, Option.toList_none, List.cons_append, List.nil_append]
    refine AW.b rfl (fun hc => ?_) (fun hc => ?_)
    · have e1 := hc
      repeat refine AW.s rfl ?_
      try dsimp only [List.set_cons_zero, List.set_cons_succ, Option.toList_some, Option.toList_none, List.cons_append, List.nil_append]
      refine AW.c rfl (hR (by decide) (by decide) (by decide)) ?_
      try dsimp only [List.set_cons_zero, List.set_cons_succ, Option.toList_some, Option.toList_none, List.cons_append, List.nil_append]
      refine AW.b rfl (fun hc => ?_) (fun hc => ?_)
      · have e2 := hc
        repeat refine AW.s rfl ?_
        try dsimp only [List.set_cons_zero, List.set_cons_succ, Option.toList_some, Option.toList_none, List.cons_append, List.nil_append]
        exact AW.ri rfl rfl rfl ⟨by rw [show wkN 2 lf rt (m (T + 4)) (m F) = if m (T + 4) lf.toNatClampNeg = 0 then (if m (T + 4) rt.toNatClampNeg = 0 then 0 else 1) else 1 from rfl, if_pos e1, if_pos e2], rfl⟩
      · have e2 := hc
        repeat refine AW.s rfl ?_
        try dsimp only [List.set_cons_zero, List.set_cons_succ, Option.toList_some, Option.toList_none, List.cons_append, List.nil_append]
        exact AW.ri rfl rfl rfl ⟨by rw [show wkN 2 lf rt (m (T + 4)) (m F) = if m (T + 4) lf.toNatClampNeg = 0 then (if m (T + 4) rt.toNatClampNeg = 0 then 0 else 1) else 1 from rfl, if_pos e1, if_neg e2], rfl⟩
    · have e1 := hc
      repeat refine AW.s rfl ?_
      try dsimp only [List.set_cons_zero, List.set_cons_succ, Option.toList_some, Option.toList_none, List.cons_append, List.nil_append]
      exact AW.ri rfl rfl rfl ⟨by rw [show wkN 2 lf rt (m (T + 4)) (m F) = if m (T + 4) lf.toNatClampNeg = 0 then (if m (T + 4) rt.toNatClampNeg = 0 then 0 else 1) else 1 from rfl, if_neg e1], rfl⟩
  · refine AW.tin (tgt := 87) rfl (by decide) (by decide) rfl (by decide) ?_
    repeat refine AW.s rfl ?_
    try dsimp only [List.set_cons_zero, List.set_cons_succ, Option.toList_some, Option.toList_none, List.cons_append, List.nil_append]
    refine AW.c rfl (hL (by decide)) ?_
    try dsimp only [List.set_cons_zero, List.set_cons_succ, Option.toList_some, Option.toList_none, List.cons_append, List.nil_append]
    refine AW.b rfl (fun hc => ?_) (fun hc => ?_)
    · have e1 := hc
      repeat refine AW.s rfl ?_
      try dsimp only [List.set_cons_zero, List.set_cons_succ, Option.toList_some, Option.toList_none, List.cons_append, List.nil_append]
      exact AW.ri rfl rfl rfl ⟨by rw [show wkN 3 lf rt (m (T + 4)) (m F) = if m (T + 4) lf.toNatClampNeg = 0 then 0 else (if m (T + 4) rt.toNatClampNeg = 0 then 0 else 1) from rfl, if_pos e1], rfl⟩
    · have e1 := hc
      repeat refine AW.s rfl ?_
      try dsimp only [List.set_cons_zero, List.set_cons_succ, Option.toList_some, Option.toList_none, List.cons_append, List.nil_append]
      refine AW.c rfl (hR (by decide) (by decide) (by decide)) ?_
      try dsimp only [List.set_cons_zero, List.set_cons_succ, Option.toList_some, Option.toList_none, List.cons_append, List.nil_append]
      refine AW.b rfl (fun hc => ?_) (fun hc => ?_)
      · have e2 := hc
        repeat refine AW.s rfl ?_
        try dsimp only [List.set_cons_zero, List.set_cons_succ, Option.toList_some, Option.toList_none, List.cons_append, List.nil_append]
        exact AW.ri rfl rfl rfl ⟨by rw [show wkN 3 lf rt (m (T + 4)) (m F) = if m (T + 4) lf.toNatClampNeg = 0 then 0 else (if m (T + 4) rt.toNatClampNeg = 0 then 0 else 1) from rfl, if_neg e1, if_pos e2], rfl⟩
      · have e2 := hc
        repeat refine AW.s rfl ?_
        try dsimp only [List.set_cons_zero, List.set_cons_succ, Option.toList_some, Option.toList_none, List.cons_append, List.nil_append]
        exact AW.ri rfl rfl rfl ⟨by rw [show wkN 3 lf rt (m (T + 4)) (m F) = if m (T + 4) lf.toNatClampNeg = 0 then 0 else (if m (T + 4) rt.toNatClampNeg = 0 then 0 else 1) from rfl, if_neg e1, if_neg e2], rfl⟩
  · refine AW.tin (tgt := 111) rfl (by decide) (by decide) rfl (by decide) ?_
    repeat refine AW.s rfl ?_
    try dsimp only [List.set_cons_zero, List.set_cons_succ, Option.toList_some, Option.toList_none, List.cons_append, List.nil_append]
    refine AW.c rfl (hL (by decide)) ?_
    try dsimp only [List.set_cons_zero, List.set_cons_succ, Option.toList_some, Option.toList_none, List.cons_append, List.nil_append]
    refine AW.b rfl (fun hc => ?_) (fun hc => ?_)
    · have e1 := hc
      repeat refine AW.s rfl ?_
      try dsimp only [List.set_cons_zero, List.set_cons_succ, Option.toList_some, Option.toList_none, List.cons_append, List.nil_append]
      exact AW.ri rfl rfl rfl ⟨by rw [show wkN 4 lf rt (m (T + 4)) (m F) = if m (T + 4) lf.toNatClampNeg = 0 then 1 else 0 from rfl, if_pos e1], rfl⟩
    · have e1 := hc
      repeat refine AW.s rfl ?_
      try dsimp only [List.set_cons_zero, List.set_cons_succ, Option.toList_some, Option.toList_none, List.cons_append, List.nil_append]
      exact AW.ri rfl rfl rfl ⟨by rw [show wkN 4 lf rt (m (T + 4)) (m F) = if m (T + 4) lf.toNatClampNeg = 0 then 1 else 0 from rfl, if_neg e1], rfl⟩
  · refine AW.tin (tgt := 126) rfl (by decide) (by decide) rfl (by decide) ?_
    repeat refine AW.s rfl ?_
    try dsimp only [List.set_cons_zero, List.set_cons_succ, Option.toList_some, Option.toList_none, List.cons_append, List.nil_append]
    refine AW.c rfl (hL (by decide)) ?_
    try dsimp only [List.set_cons_zero, List.set_cons_succ, Option.toList_some, Option.toList_none, List.cons_append, List.nil_append]
    repeat refine AW.s rfl ?_
    try dsimp only [List.set_cons_zero, List.set_cons_succ, Option.toList_some, Option.toList_none, List.cons_append, List.nil_append]
    refine AW.c rfl (hR (by decide) (by decide) (by decide)) ?_
    try dsimp only [List.set_cons_zero, List.set_cons_succ, Option.toList_some, Option.toList_none, List.cons_append, List.nil_append]
    refine AW.b rfl (fun hc => ?_) (fun hc => ?_)
    · have e1 := hc
      repeat refine AW.s rfl ?_
      try dsimp only [List.set_cons_zero, List.set_cons_succ, Option.toList_some, Option.toList_none, List.cons_append, List.nil_append]
      exact AW.ri rfl rfl rfl ⟨by rw [show wkN 5 lf rt (m (T + 4)) (m F) = if m (T + 4) lf.toNatClampNeg < m (T + 4) rt.toNatClampNeg then 1 else 0 from rfl, if_pos e1], rfl⟩
    · have e1 := hc
      repeat refine AW.s rfl ?_
      try dsimp only [List.set_cons_zero, List.set_cons_succ, Option.toList_some, Option.toList_none, List.cons_append, List.nil_append]
      exact AW.ri rfl rfl rfl ⟨by rw [show wkN 5 lf rt (m (T + 4)) (m F) = if m (T + 4) lf.toNatClampNeg < m (T + 4) rt.toNatClampNeg then 1 else 0 from rfl, if_neg e1], rfl⟩
  · refine AW.tin (tgt := 147) rfl (by decide) (by decide) rfl (by decide) ?_
    repeat refine AW.s rfl ?_
    try dsimp only [List.set_cons_zero, List.set_cons_succ, Option.toList_some, Option.toList_none, List.cons_append, List.nil_append]
    refine AW.c rfl (hL (by decide)) ?_
    try dsimp only [List.set_cons_zero, List.set_cons_succ, Option.toList_some, Option.toList_none, List.cons_append, List.nil_append]
    repeat refine AW.s rfl ?_
    try dsimp only [List.set_cons_zero, List.set_cons_succ, Option.toList_some, Option.toList_none, List.cons_append, List.nil_append]
    refine AW.c rfl (hR (by decide) (by decide) (by decide)) ?_
    try dsimp only [List.set_cons_zero, List.set_cons_succ, Option.toList_some, Option.toList_none, List.cons_append, List.nil_append]
    refine AW.b rfl (fun hc => ?_) (fun hc => ?_)
    · have e1 := hc
      repeat refine AW.s rfl ?_
      try dsimp only [List.set_cons_zero, List.set_cons_succ, Option.toList_some, Option.toList_none, List.cons_append, List.nil_append]
      exact AW.ri rfl rfl rfl ⟨by rw [show wkN 6 lf rt (m (T + 4)) (m F) = if m (T + 4) lf.toNatClampNeg = m (T + 4) rt.toNatClampNeg then 1 else 0 from rfl, if_pos e1], rfl⟩
    · have e1 := hc
      repeat refine AW.s rfl ?_
      try dsimp only [List.set_cons_zero, List.set_cons_succ, Option.toList_some, Option.toList_none, List.cons_append, List.nil_append]
      exact AW.ri rfl rfl rfl ⟨by rw [show wkN 6 lf rt (m (T + 4)) (m F) = if m (T + 4) lf.toNatClampNeg = m (T + 4) rt.toNatClampNeg then 1 else 0 from rfl, if_neg e1], rfl⟩
  · refine AW.tin (tgt := 168) rfl (by decide) (by decide) rfl (by decide) ?_
    repeat refine AW.s rfl ?_
    try dsimp only [List.set_cons_zero, List.set_cons_succ, Option.toList_some, Option.toList_none, List.cons_append, List.nil_append]
    refine AW.c rfl (hL (by decide)) ?_
    try dsimp only [List.set_cons_zero, List.set_cons_succ, Option.toList_some, Option.toList_none, List.cons_append, List.nil_append]
    repeat refine AW.s rfl ?_
    try dsimp only [List.set_cons_zero, List.set_cons_succ, Option.toList_some, Option.toList_none, List.cons_append, List.nil_append]
    refine AW.c rfl (hR (by decide) (by decide) (by decide)) ?_
    try dsimp only [List.set_cons_zero, List.set_cons_succ, Option.toList_some, Option.toList_none, List.cons_append, List.nil_append]
    repeat refine AW.s rfl ?_
    try dsimp only [List.set_cons_zero, List.set_cons_succ, Option.toList_some, Option.toList_none, List.cons_append, List.nil_append]
    exact AW.ri rfl rfl rfl ⟨rfl, rfl⟩
  · refine AW.tin (tgt := 182) rfl (by decide) (by decide) rfl (by decide) ?_
    repeat refine AW.s rfl ?_
    try dsimp only [List.set_cons_zero, List.set_cons_succ, Option.toList_some, Option.toList_none, List.cons_append, List.nil_append]
    refine AW.c rfl (hL (by decide)) ?_
    try dsimp only [List.set_cons_zero, List.set_cons_succ, Option.toList_some, Option.toList_none, List.cons_append, List.nil_append]
    repeat refine AW.s rfl ?_
    try dsimp only [List.set_cons_zero, List.set_cons_succ, Option.toList_some, Option.toList_none, List.cons_append, List.nil_append]
    refine AW.c rfl (hR (by decide) (by decide) (by decide)) ?_
    try dsimp only [List.set_cons_zero, List.set_cons_succ, Option.toList_some, Option.toList_none, List.cons_append, List.nil_append]
    repeat refine AW.s rfl ?_
    try dsimp only [List.set_cons_zero, List.set_cons_succ, Option.toList_some, Option.toList_none, List.cons_append, List.nil_append]
    exact AW.ri rfl rfl rfl ⟨rfl, rfl⟩
  · refine AW.tin (tgt := 196) rfl (by decide) (by decide) rfl (by decide) ?_
    repeat refine AW.s rfl ?_
    try dsimp only [List.set_cons_zero, List.set_cons_succ, Option.toList_some, Option.toList_none, List.cons_append, List.nil_append]
    refine AW.c rfl (hL (by decide)) ?_
    try dsimp only [List.set_cons_zero, List.set_cons_succ, Option.toList_some, Option.toList_none, List.cons_append, List.nil_append]
    repeat refine AW.s rfl ?_
    try dsimp only [List.set_cons_zero, List.set_cons_succ, Option.toList_some, Option.toList_none, List.cons_append, List.nil_append]
    refine AW.c rfl (hR (by decide) (by decide) (by decide)) ?_
    try dsimp only [List.set_cons_zero, List.set_cons_succ, Option.toList_some, Option.toList_none, List.cons_append, List.nil_append]
    repeat refine AW.s rfl ?_
    try dsimp only [List.set_cons_zero, List.set_cons_succ, Option.toList_some, Option.toList_none, List.cons_append, List.nil_append]
    exact AW.ri rfl rfl rfl ⟨rfl, rfl⟩
  · refine AW.tout (tgt := 210) rfl (by decide) (by decide) ?_
    repeat refine AW.s rfl ?_
    try dsimp only [List.set_cons_zero, List.set_cons_succ, Option.toList_some, Option.toList_none, List.cons_append, List.nil_append]
    refine AW.c rfl (hL (by decide)) ?_
    try dsimp only [List.set_cons_zero, List.set_cons_succ, Option.toList_some, Option.toList_none, List.cons_append, List.nil_append]
    repeat refine AW.s rfl ?_
    try dsimp only [List.set_cons_zero, List.set_cons_succ, Option.toList_some, Option.toList_none, List.cons_append, List.nil_append]
    exact AW.ri rfl rfl rfl ⟨rfl, rfl⟩
