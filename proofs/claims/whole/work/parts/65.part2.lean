theorem i5 (t : Int32) : t = 0 ∨ t = 1 ∨ t = 2 ∨ t = 3 ∨ t = 4 ∨ ((t.toInt < 0 ∨ 4 < t.toInt) ∧ t ≠ 0 ∧ t ≠ 1 ∧ t ≠ 2 ∧ t ≠ 3 ∧ t ≠ 4) := by
  by_cases h0 : t = 0
  · exact Or.inl h0
  by_cases h1 : t = 1
  · exact Or.inr (Or.inl h1)
  by_cases h2 : t = 2
  · exact Or.inr (Or.inr (Or.inl h2))
  by_cases h3 : t = 3
  · exact Or.inr (Or.inr (Or.inr (Or.inl h3)))
  by_cases h4 : t = 4
  · exact Or.inr (Or.inr (Or.inr (Or.inr (Or.inl h4))))
  refine Or.inr (Or.inr (Or.inr (Or.inr (Or.inr ⟨?_, h0, h1, h2, h3, h4⟩))))
  have g0 : t.toInt ≠ 0 := fun q => h0 (Int32.toInt_inj.mp (q.trans (by decide)))
  have g1 : t.toInt ≠ 1 := fun q => h1 (Int32.toInt_inj.mp (q.trans (by decide)))
  have g2 : t.toInt ≠ 2 := fun q => h2 (Int32.toInt_inj.mp (q.trans (by decide)))
  have g3 : t.toInt ≠ 3 := fun q => h3 (Int32.toInt_inj.mp (q.trans (by decide)))
  have g4 : t.toInt ≠ 4 := fun q => h4 (Int32.toInt_inj.mp (q.trans (by decide)))
  omega
/-- whether there is such a part -/
def hpB (σ : Sg) (t i : Int32) : Int32 := if t = 0 then 1 else if t = 1 then hB i (σ 0 1) else if t = 2 ∨ t = 3 then hB i (σ 0 2) else if t = 4 then hB i (σ 0 3) else 0
theorem c_hasPart {l : Launch} {X : XT} {d : Nat} {t i : Int32} {m : Mem} {σ : Sg} (hd : 1 ≤ d) (hs : RepS m 1 σ) : Meth l X d M_X7_hasPart [vR 8 1, vI t, vI i] m (fun r m' => r = some (vI (hpB σ t i)) ∧ m' = m) := by
  obtain ⟨d, rfl⟩ : ∃ e, d = e + 1 := ⟨d - 1, by omega⟩
  refine E_X7_hasPart (ls := [vR 8 1, vI t, vI i]) rfl rfl ?_
  repeat refine AW.s rfl ?_
  try dsimp only [List.set_cons_zero, List.set_cons_succ, Option.toList_some, Option.toList_none, List.cons_append, List.nil_append]
  rcases i5 t with rfl | rfl | rfl | rfl | rfl | ⟨ht, h0, h1, h2, h3, h4⟩
  · refine AW.tin (tgt := 36) rfl (by decide) (by decide) rfl (by decide) ?_
    repeat refine AW.s rfl ?_
    try dsimp only [List.set_cons_zero, List.set_cons_succ, Option.toList_some, Option.toList_none, List.cons_append, List.nil_append]
    exact AW.ri rfl rfl rfl ⟨rfl, rfl⟩
  · refine AW.tin (tgt := 38) rfl (by decide) (by decide) rfl (by decide) ?_
    repeat refine AW.s rfl ?_
    try dsimp only [List.set_cons_zero, List.set_cons_succ, Option.toList_some, Option.toList_none, List.cons_append, List.nil_append]
    refine AW.V k_7_64 ((c_hasWord hs)) rfl rfl rfl rfl rfl rfl (fun r1 m1 hq => ?_)
    obtain ⟨rfl, hm1⟩ := hq
    rw [hm1]
    repeat refine AW.s rfl ?_
    try dsimp only [List.set_cons_zero, List.set_cons_succ, Option.toList_some, Option.toList_none, List.cons_append, List.nil_append]
    exact AW.ri rfl rfl (hB_nar _ _) ⟨rfl, rfl⟩
  · refine AW.tin (tgt := 44) rfl (by decide) (by decide) rfl (by decide) ?_
    repeat refine AW.s rfl ?_
    try dsimp only [List.set_cons_zero, List.set_cons_succ, Option.toList_some, Option.toList_none, List.cons_append, List.nil_append]
    refine AW.V k_7_68 ((c_hasRule hs)) rfl rfl rfl rfl rfl rfl (fun r1 m1 hq => ?_)
    obtain ⟨rfl, hm1⟩ := hq
    rw [hm1]
    repeat refine AW.s rfl ?_
    try dsimp only [List.set_cons_zero, List.set_cons_succ, Option.toList_some, Option.toList_none, List.cons_append, List.nil_append]
    exact AW.ri rfl rfl (hB_nar _ _) ⟨rfl, rfl⟩
  · refine AW.tin (tgt := 44) rfl (by decide) (by decide) rfl (by decide) ?_
    repeat refine AW.s rfl ?_
    try dsimp only [List.set_cons_zero, List.set_cons_succ, Option.toList_some, Option.toList_none, List.cons_append, List.nil_append]
    refine AW.V k_7_68 ((c_hasRule hs)) rfl rfl rfl rfl rfl rfl (fun r1 m1 hq => ?_)
    obtain ⟨rfl, hm1⟩ := hq
    rw [hm1]
    repeat refine AW.s rfl ?_
    try dsimp only [List.set_cons_zero, List.set_cons_succ, Option.toList_some, Option.toList_none, List.cons_append, List.nil_append]
    exact AW.ri rfl rfl (hB_nar _ _) ⟨rfl, rfl⟩
  · refine AW.tin (tgt := 50) rfl (by decide) (by decide) rfl (by decide) ?_
    have e0 : hpB σ 4 i = hB i (σ 0 3) := rfl
    rw [e0]
    repeat refine AW.s rfl ?_
    try dsimp only [List.set_cons_zero, List.set_cons_succ, Option.toList_some, Option.toList_none, List.cons_append, List.nil_append]
    refine AW.b rfl (fun hc => ?_) (fun hc => ?_)
    · have e1 := hc
      repeat refine AW.s rfl ?_
      try dsimp only [List.set_cons_zero, List.set_cons_succ, Option.toList_some, Option.toList_none, List.cons_append, List.nil_append]
      exact AW.ri rfl rfl rfl ⟨by unfold hB; rw [if_pos e1], rfl⟩
    · have e1 := hc
      repeat refine AW.s rfl ?_
      try dsimp only [List.set_cons_zero, List.set_cons_succ, Option.toList_some, Option.toList_none, List.cons_append, List.nil_append]
      rw [show m (1 + 15) 1 = nI (σ 0 3) from hs.2.2.2.2.2.2.1]
      refine AW.b rfl (fun hc => ?_) (fun hc => ?_)
      · have e2 := hc
        repeat refine AW.s rfl ?_
        try dsimp only [List.set_cons_zero, List.set_cons_succ, Option.toList_some, Option.toList_none, List.cons_append, List.nil_append]
        exact AW.ri rfl rfl rfl ⟨by unfold hB; rw [if_neg e1, if_pos e2], rfl⟩
      · have e2 := hc
        repeat refine AW.s rfl ?_
        try dsimp only [List.set_cons_zero, List.set_cons_succ, Option.toList_some, Option.toList_none, List.cons_append, List.nil_append]
        exact AW.ri rfl rfl rfl ⟨by unfold hB; rw [if_neg e1, if_neg e2], rfl⟩
  · refine AW.tout (tgt := 71) rfl ht (by decide) ?_
    repeat refine AW.s rfl ?_
    try dsimp only [List.set_cons_zero, List.set_cons_succ, Option.toList_some, Option.toList_none, List.cons_append, List.nil_append]
    exact AW.ri rfl rfl rfl ⟨by unfold hpB; rw [if_neg h0, if_neg h1, if_neg (fun q => q.elim h2 h3), if_neg h4], rfl⟩
/-- whether a part can be that -/
def chB (σ : Sg) (t v : Int32) : Int32 := if t = 0 then (if v < 0 then 0 else if v < 67108864 then 1 else 0) else if t = 1 then wB v 99 else if t = 4 then hB v (σ 0 2) else wB v 25
theorem c_canHold {l : Launch} {X : XT} {d : Nat} {t v : Int32} {m : Mem} {σ : Sg} (hd : 2 ≤ d) (hs : RepS m 1 σ) : Meth l X d M_X7_canHold [vR 8 1, vI t, vI v] m (fun r m' => r = some (vI (chB σ t v)) ∧ m' = m) := by
  obtain ⟨d, rfl⟩ : ∃ e, d = e + 1 := ⟨d - 1, by omega⟩
  refine E_X7_canHold (ls := [vR 8 1, vI t, vI v]) rfl rfl ?_
  repeat refine AW.s rfl ?_
  try dsimp only [List.set_cons_zero, List.set_cons_succ, Option.toList_some, Option.toList_none, List.cons_append, List.nil_append]
  rcases i5 t with rfl | rfl | rfl | rfl | rfl | ⟨ht, h0, h1, h2, h3, h4⟩
  · refine AW.tin (tgt := 36) rfl (by decide) (by decide) rfl (by decide) ?_
    have e0 : chB σ 0 v = if v < 0 then 0 else if v < 67108864 then 1 else 0 := rfl
    rw [e0]
    repeat refine AW.s rfl ?_
    try dsimp only [List.set_cons_zero, List.set_cons_succ, Option.toList_some, Option.toList_none, List.cons_append, List.nil_append]
    refine AW.b rfl (fun hc => ?_) (fun hc => ?_)
    · have e1 := hc
      repeat refine AW.s rfl ?_
      try dsimp only [List.set_cons_zero, List.set_cons_succ, Option.toList_some, Option.toList_none, List.cons_append, List.nil_append]
      exact AW.ri rfl rfl rfl ⟨by rw [if_pos e1], rfl⟩
    · have e1 := hc
      repeat refine AW.s rfl ?_
      try dsimp only [List.set_cons_zero, List.set_cons_succ, Option.toList_some, Option.toList_none, List.cons_append, List.nil_append]
      refine AW.b rfl (fun hc => ?_) (fun hc => ?_)
      · have e2 := hc
        repeat refine AW.s rfl ?_
        try dsimp only [List.set_cons_zero, List.set_cons_succ, Option.toList_some, Option.toList_none, List.cons_append, List.nil_append]
        exact AW.ri rfl rfl rfl ⟨by rw [if_neg e1, if_pos e2], rfl⟩
      · have e2 := hc
        repeat refine AW.s rfl ?_
        try dsimp only [List.set_cons_zero, List.set_cons_succ, Option.toList_some, Option.toList_none, List.cons_append, List.nil_append]
        exact AW.ri rfl rfl rfl ⟨by rw [if_neg e1, if_neg e2], rfl⟩
  · refine AW.tin (tgt := 52) rfl (by decide) (by decide) rfl (by decide) ?_
    repeat refine AW.s rfl ?_
    try dsimp only [List.set_cons_zero, List.set_cons_succ, Option.toList_some, Option.toList_none, List.cons_append, List.nil_append]
    refine AW.N k_7_73 (c_isWithin) rfl rfl rfl rfl (fun r1 m1 hq => ?_)
    obtain ⟨rfl, hm1⟩ := hq
    rw [hm1]
    repeat refine AW.s rfl ?_
    try dsimp only [List.set_cons_zero, List.set_cons_succ, Option.toList_some, Option.toList_none, List.cons_append, List.nil_append]
    exact AW.ri rfl rfl (wB_nar _ _) ⟨rfl, rfl⟩
  · refine AW.tin (tgt := 65) rfl (by decide) (by decide) rfl (by decide) ?_
    repeat refine AW.s rfl ?_
    try dsimp only [List.set_cons_zero, List.set_cons_succ, Option.toList_some, Option.toList_none, List.cons_append, List.nil_append]
    refine AW.N k_7_77 ((c_isLetter (by omega))) rfl rfl rfl rfl (fun r1 m1 hq => ?_)
    obtain ⟨rfl, hm1⟩ := hq
    rw [hm1]
    repeat refine AW.s rfl ?_
    try dsimp only [List.set_cons_zero, List.set_cons_succ, Option.toList_some, Option.toList_none, List.cons_append, List.nil_append]
    exact AW.ri rfl rfl (wB_nar _ _) ⟨rfl, rfl⟩
  · refine AW.tin (tgt := 65) rfl (by decide) (by decide) rfl (by decide) ?_
    repeat refine AW.s rfl ?_
    try dsimp only [List.set_cons_zero, List.set_cons_succ, Option.toList_some, Option.toList_none, List.cons_append, List.nil_append]
    refine AW.N k_7_77 ((c_isLetter (by omega))) rfl rfl rfl rfl (fun r1 m1 hq => ?_)
    obtain ⟨rfl, hm1⟩ := hq
    rw [hm1]
    repeat refine AW.s rfl ?_
    try dsimp only [List.set_cons_zero, List.set_cons_succ, Option.toList_some, Option.toList_none, List.cons_append, List.nil_append]
    exact AW.ri rfl rfl (wB_nar _ _) ⟨rfl, rfl⟩
  · refine AW.tin (tgt := 59) rfl (by decide) (by decide) rfl (by decide) ?_
    repeat refine AW.s rfl ?_
    try dsimp only [List.set_cons_zero, List.set_cons_succ, Option.toList_some, Option.toList_none, List.cons_append, List.nil_append]
    refine AW.V k_7_68 ((c_hasRule hs)) rfl rfl rfl rfl rfl rfl (fun r1 m1 hq => ?_)
    obtain ⟨rfl, hm1⟩ := hq
    rw [hm1]
    repeat refine AW.s rfl ?_
    try dsimp only [List.set_cons_zero, List.set_cons_succ, Option.toList_some, Option.toList_none, List.cons_append, List.nil_append]
    exact AW.ri rfl rfl (hB_nar _ _) ⟨rfl, rfl⟩
  · refine AW.tout (tgt := 65) rfl ht (by decide) ?_
    repeat refine AW.s rfl ?_
    try dsimp only [List.set_cons_zero, List.set_cons_succ, Option.toList_some, Option.toList_none, List.cons_append, List.nil_append]
    refine AW.N k_7_77 ((c_isLetter (by omega))) rfl rfl rfl rfl (fun r1 m1 hq => ?_)
    obtain ⟨rfl, hm1⟩ := hq
    rw [hm1]
    repeat refine AW.s rfl ?_
    try dsimp only [List.set_cons_zero, List.set_cons_succ, Option.toList_some, Option.toList_none, List.cons_append, List.nil_append]
    exact AW.ri rfl rfl (wB_nar _ _) ⟨by unfold chB; rw [if_neg h0, if_neg h1, if_neg h4], rfl⟩
/-- a part of the system -/
def ptN (σ : Sg) (t i : Nat) : Nat := if t = 0 then σ 0 0 else if t = 1 then σ 2 i else if t = 2 then σ 4 i else if t = 3 then σ 5 i else σ 6 i
def ptOK (σ : Sg) (t i : Nat) : Prop := t = 0 ∨ (t = 1 ∧ i < σ 0 1) ∨ (t = 2 ∧ i < σ 0 2) ∨ (t = 3 ∧ i < σ 0 2) ∨ (t = 4 ∧ i < σ 0 3)
theorem c_part {l : Launch} {X : XT} {d : Nat} {t i : Nat} {m : Mem} {σ : Sg} (hs : RepS m 1 σ) (hσ : WF σ) (ho : ptOK σ t i) : Meth l X d M_X7_part [vR 8 1, vI (nI t), vI (nI i)] m (fun r m' => r = some (vI (nI (ptN σ t i))) ∧ m' = m) := by
  have b1 := hσ.2.1
  have b2 := hσ.2.2.1
  have b3 := hσ.2.2.2.1
  refine E_X7_part (ls := [vR 8 1, vI (nI t), vI (nI i)]) rfl rfl ?_
  repeat refine AW.s rfl ?_
  try dsimp only [List.set_cons_zero, List.set_cons_succ, Option.toList_some, Option.toList_none, List.cons_append, List.nil_append]
  rcases ho with rfl | ⟨rfl, hi⟩ | ⟨rfl, hi⟩ | ⟨rfl, hi⟩ | ⟨rfl, hi⟩
  · refine AW.tin (tgt := 32) rfl (by decide) (by decide) rfl (by decide) ?_
    repeat refine AW.s rfl ?_
    try dsimp only [List.set_cons_zero, List.set_cons_succ, Option.toList_some, Option.toList_none, List.cons_append, List.nil_append]
    rw [show m 1 0 = nI (σ 0 0) from hs.1]
    exact AW.ri rfl rfl rfl ⟨rfl, rfl⟩
  · refine AW.tin (tgt := 37) rfl (by decide) (by decide) rfl (by decide) ?_
    repeat refine AW.s rfl ?_
    try dsimp only [List.set_cons_zero, List.set_cons_succ, Option.toList_some, Option.toList_none, List.cons_append, List.nil_append]
    refine AW.c rfl (vp_in_nI (by omega) (by decide)) ?_
    try dsimp only [List.set_cons_zero, List.set_cons_succ, Option.toList_some, Option.toList_none, List.cons_append, List.nil_append]
    rw [nI_clamp (by omega), show m (1 + 11) i = nI (σ 2 i) from (hs.2.2.2.2.1 i hi).2.1]
    exact AW.ri rfl rfl rfl ⟨rfl, rfl⟩
  · refine AW.tin (tgt := 44) rfl (by decide) (by decide) rfl (by decide) ?_
    repeat refine AW.s rfl ?_
    try dsimp only [List.set_cons_zero, List.set_cons_succ, Option.toList_some, Option.toList_none, List.cons_append, List.nil_append]
    refine AW.c rfl (vp_in_nI (by omega) (by decide)) ?_
    try dsimp only [List.set_cons_zero, List.set_cons_succ, Option.toList_some, Option.toList_none, List.cons_append, List.nil_append]
    rw [nI_clamp (by omega), show m (1 + 13) i = nI (σ 4 i) from (hs.2.2.2.2.2.1 i hi).2.1]
    exact AW.ri rfl rfl rfl ⟨rfl, rfl⟩
  · refine AW.tin (tgt := 51) rfl (by decide) (by decide) rfl (by decide) ?_
    repeat refine AW.s rfl ?_
    try dsimp only [List.set_cons_zero, List.set_cons_succ, Option.toList_some, Option.toList_none, List.cons_append, List.nil_append]
    refine AW.c rfl (vp_in_nI (by omega) (by decide)) ?_
    try dsimp only [List.set_cons_zero, List.set_cons_succ, Option.toList_some, Option.toList_none, List.cons_append, List.nil_append]
    rw [nI_clamp (by omega), show m (1 + 14) i = nI (σ 5 i) from (hs.2.2.2.2.2.1 i hi).2.2]
    exact AW.ri rfl rfl rfl ⟨rfl, rfl⟩
  · refine AW.tout (tgt := 58) rfl (by decide) (by decide) ?_
    repeat refine AW.s rfl ?_
    try dsimp only [List.set_cons_zero, List.set_cons_succ, Option.toList_some, Option.toList_none, List.cons_append, List.nil_append]
    refine AW.c rfl (vp_in_nI (by omega) (by decide)) ?_
    try dsimp only [List.set_cons_zero, List.set_cons_succ, Option.toList_some, Option.toList_none, List.cons_append, List.nil_append]
    rw [nI_clamp (by omega), show m (1 + 15 + 1) i = nI (σ 6 i) from hs.2.2.2.2.2.2.2 i hi]
    exact AW.ri rfl rfl rfl ⟨rfl, rfl⟩
