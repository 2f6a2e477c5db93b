-- ===== the model's tokens =====
/-- what the model keeps of a token of this kind and value -/
def MTk (k v tok wor : Int32) : Prop := (k = 0 ∧ tok = 5) ∨ (k = 1 ∧ tok = 6) ∨ (k = 2 ∧ tok = 1 ∧ wor = v) ∨ (k = 3 ∧ tok = 2 ∧ wor = v) ∨ (∃ j, j < 6 ∧ k = nI (4 + j) ∧ tok = 3 ∧ wor = nI j) ∨ ∃ b, sgnB b = true ∧ b < 256 ∧ k = nI b ∧ tok = 4 ∧ wor = nI b
def FK (m m' : Mem) : Prop := (∀ a, a ≠ 243 → m' a = m a) ∧ ∀ k, k ≠ 17 → k ≠ 18 → k ≠ 19 → k ≠ 20 → m' 243 k = m 243 k
theorem FK.rf {m : Mem} : FK m m := ⟨fun _ _ => rfl, fun _ _ _ _ _ => rfl⟩
theorem FK.tr {m m1 m2 : Mem} (h1 : FK m m1) (h2 : FK m1 m2) : FK m m2 := ⟨fun a h => by rw [h2.1 a h, h1.1 a h], fun k a b c d => by rw [h2.2 k a b c d, h1.2 k a b c d]⟩
theorem FK.u {m m1 : Mem} {k : Nat} {x : Int32} (h : FK m m1) (hk : k = 17 ∨ k = 18 ∨ k = 19 ∨ k = 20) : FK m (mUp m1 243 k x) := ⟨fun a ha => by rw [mUp_a ha]; exact h.1 a ha, fun q a b c d => by rw [mUp_n (Or.inr (by omega))]; exact h.2 q a b c d⟩
def ltI (g : Nat → Int32) (s p : Nat) : Int32 := if p < s then (if g p < 97 then 0 else if 122 < g p then 0 else 1) else 0
def dgI (g : Nat → Int32) (s p : Nat) : Int32 := if p < s then (if g p < 48 then 0 else if 57 < g p then 0 else 1) else 0
theorem wdF_s {g : Nat → Int32} {s p : Nat} (h : ltI g s p = 1) : wdF g (s - p) p = wdF g (s - (p + 1)) (p + 1) ∧ p < s := by
  unfold ltI at h
  by_cases q : p < s
  · rw [if_pos q] at h
    obtain ⟨f, hf⟩ : ∃ f, s - p = f + 1 := ⟨s - p - 1, by omega⟩
    rw [show s - (p + 1) = f by omega, hf]
    refine ⟨?_, q⟩
    show (if g p < 97 then p else if 122 < g p then p else wdF g f (p + 1)) = _
    by_cases z1 : g p < 97
    · rw [if_pos z1] at h; exact absurd h (by decide)
    · by_cases z2 : 122 < g p
      · rw [if_neg z1, if_pos z2] at h; exact absurd h (by decide)
      · rw [if_neg z1, if_neg z2]
  · rw [if_neg q] at h; exact absurd h (by decide)
theorem wdF_z {g : Nat → Int32} {s p : Nat} (h : ¬ ltI g s p = 1) : wdF g (s - p) p = p := by
  unfold ltI at h
  by_cases q : p < s
  · rw [if_pos q] at h
    obtain ⟨f, hf⟩ : ∃ f, s - p = f + 1 := ⟨s - p - 1, by omega⟩
    rw [hf]
    show (if g p < 97 then p else if 122 < g p then p else wdF g f (p + 1)) = _
    by_cases z1 : g p < 97
    · rw [if_pos z1]
    · by_cases z2 : 122 < g p
      · rw [if_neg z1, if_pos z2]
      · rw [if_neg z1, if_neg z2] at h; exact absurd rfl h
  · rw [show s - p = 0 by omega]; rfl
theorem nbF_s {g : Nat → Int32} {s p : Nat} {v : Int32} (h : dgI g s p = 1) : nbF g (s - p) p v = nbF g (s - (p + 1)) (p + 1) (v * 10 + g p - 48) ∧ p < s := by
  unfold dgI at h
  by_cases q : p < s
  · rw [if_pos q] at h
    obtain ⟨f, hf⟩ : ∃ f, s - p = f + 1 := ⟨s - p - 1, by omega⟩
    rw [show s - (p + 1) = f by omega, hf]
    refine ⟨?_, q⟩
    show (if g p < 48 then (p, v) else if 57 < g p then (p, v) else nbF g f (p + 1) (v * 10 + g p - 48)) = _
    by_cases z1 : g p < 48
    · rw [if_pos z1] at h; exact absurd h (by decide)
    · by_cases z2 : 57 < g p
      · rw [if_neg z1, if_pos z2] at h; exact absurd h (by decide)
      · rw [if_neg z1, if_neg z2]
  · rw [if_neg q] at h; exact absurd h (by decide)
theorem nbF_z {g : Nat → Int32} {s p : Nat} {v : Int32} (h : ¬ dgI g s p = 1) : nbF g (s - p) p v = (p, v) := by
  unfold dgI at h
  by_cases q : p < s
  · rw [if_pos q] at h
    obtain ⟨f, hf⟩ : ∃ f, s - p = f + 1 := ⟨s - p - 1, by omega⟩
    rw [hf]
    show (if g p < 48 then (p, v) else if 57 < g p then (p, v) else nbF g f (p + 1) (v * 10 + g p - 48)) = _
    by_cases z1 : g p < 48
    · rw [if_pos z1]
    · by_cases z2 : 57 < g p
      · rw [if_neg z1, if_pos z2]
      · rw [if_neg z1, if_neg z2] at h; exact absurd rfl h
  · rw [show s - p = 0 by omega]; rfl
theorem bgn_ok : ∀ i, i < 12 → BGN.getD i 0 ≤ BGN.getD (i + 1) 0 ∧ BGN.getD (i + 1) 0 ≤ 53 ∧ SLN.getD (i + 1) 0 = BGN.getD (i + 1) 0 - BGN.getD i 0 ∧ ∀ k, k < SLN.getD (i + 1) 0 → LTC.getD (BGN.getD i 0 + k) 0 = (SBY.getD (i + 1) []).getD k 0 := by decide +kernel
theorem sby_ne : ∀ i, i < 12 → ∀ j, j < 12 → SLN.getD (i + 1) 0 = SLN.getD (j + 1) 0 → (∀ k, k < SLN.getD (i + 1) 0 → (SBY.getD (i + 1) []).getD k 0 = (SBY.getD (j + 1) []).getD k 0) → i = j := by decide +kernel
theorem spB_u {g : Nat → Int32} {p e i j : Nat} (hi : i < 12) (hj : j < 12) (h1 : spB g p e i = true) (h2 : spB g p e j = true) : i = j := by
  obtain ⟨a1, a2⟩ := spB_1.mp h1
  obtain ⟨b1, b2⟩ := spB_1.mp h2
  exact sby_ne i hi j hj (by rw [a1, b1]) (fun k hk => by rw [← a2 k (by omega), ← b2 k (by omega)])
theorem spF_is {g : Nat → Int32} {p e : Nat} (f : Nat) : ∀ i, i + f = 12 → (spF g p e f i = 12 ∧ ∀ j, i ≤ j → j < 12 → ¬ spB g p e j = true) ∨ (spF g p e f i < 12 ∧ spB g p e (spF g p e f i) = true) := by
  induction f with
  | zero => intro i hi; exact Or.inl ⟨rfl, fun j h1 h2 => absurd h2 (by omega)⟩
  | succ f ih =>
    intro i hi
    have e0 : spF g p e (f + 1) i = if spB g p e i then i else spF g p e f (i + 1) := rfl
    by_cases q : spB g p e i = true
    · rw [if_pos q] at e0
      rw [e0]
      exact Or.inr ⟨by omega, q⟩
    · rw [if_neg q] at e0
      rw [e0]
      rcases ih (i + 1) (by omega) with ⟨a, b⟩ | ⟨a, b⟩
      · refine Or.inl ⟨a, fun j h1 h2 => ?_⟩
        by_cases ej : j = i
        · subst ej; exact q
        · exact b j (by omega) h2
      · exact Or.inr ⟨a, b⟩
section
variable {l : Launch} {X : XT} {d s p : Nat} {m : Mem} {Ω : OM}
theorem c_MisLetter (hs : m 243 12 = nI s) (hs1 : s ≤ 160) (hp : p ≤ s) : Meth l X d M_X11_isLetter [vR 12 243, vI (nI p)] m (fun r m' => r = some (vI (ltI (m 251) s p)) ∧ m' = m) := by
  refine E_X11_isLetter (ls := [vR 12 243, vI (nI p)]) rfl rfl ?_
  unfold ltI
  repeat refine AW.s rfl ?_
  try dsimp only [List.set_cons_zero, List.set_cons_succ, Option.toList_some, Option.toList_none, List.cons_append, List.nil_append]
  rw [hs]
  refine AW.b rfl (fun hc => ?_) (fun hc => ?_)
  · have hlt : p < s := (nI_ltI (by omega) (by omega)).mp hc
    rw [if_pos hlt]
    repeat refine AW.s rfl ?_
    try dsimp only [List.set_cons_zero, List.set_cons_succ, Option.toList_some, Option.toList_none, List.cons_append, List.nil_append]
    refine AW.c rfl (vp_in_nI (by omega) (by decide)) ?_
    try dsimp only [List.set_cons_zero, List.set_cons_succ, Option.toList_some, Option.toList_none, List.cons_append, List.nil_append]
    rw [nI_clamp (by omega)]
    repeat refine AW.s rfl ?_
    try dsimp only [List.set_cons_zero, List.set_cons_succ, Option.toList_some, Option.toList_none, List.cons_append, List.nil_append]
    refine AW.b rfl (fun hc => ?_) (fun hc => ?_)
    · rw [if_pos (show m 251 p < 97 from hc)]
      repeat refine AW.s rfl ?_
      try dsimp only [List.set_cons_zero, List.set_cons_succ, Option.toList_some, Option.toList_none, List.cons_append, List.nil_append]
      exact AW.ri rfl rfl rfl ⟨rfl, rfl⟩
    · rw [if_neg (show ¬ m 251 p < 97 from hc)]
      repeat refine AW.s rfl ?_
      try dsimp only [List.set_cons_zero, List.set_cons_succ, Option.toList_some, Option.toList_none, List.cons_append, List.nil_append]
      refine AW.c rfl (vp_in_nI (by omega) (by decide)) ?_
      try dsimp only [List.set_cons_zero, List.set_cons_succ, Option.toList_some, Option.toList_none, List.cons_append, List.nil_append]
      rw [nI_clamp (by omega)]
      repeat refine AW.s rfl ?_
      try dsimp only [List.set_cons_zero, List.set_cons_succ, Option.toList_some, Option.toList_none, List.cons_append, List.nil_append]
      refine AW.b rfl (fun hc => ?_) (fun hc => ?_)
      · rw [if_pos (show 122 < m 251 p from hc)]
        repeat refine AW.s rfl ?_
        try dsimp only [List.set_cons_zero, List.set_cons_succ, Option.toList_some, Option.toList_none, List.cons_append, List.nil_append]
        exact AW.ri rfl rfl rfl ⟨rfl, rfl⟩
      · rw [if_neg (show ¬ 122 < m 251 p from hc)]
        repeat refine AW.s rfl ?_
        try dsimp only [List.set_cons_zero, List.set_cons_succ, Option.toList_some, Option.toList_none, List.cons_append, List.nil_append]
        exact AW.ri rfl rfl rfl ⟨rfl, rfl⟩
  · rw [if_neg (fun q => hc (nI_lt q (by omega)))]
    repeat refine AW.s rfl ?_
    try dsimp only [List.set_cons_zero, List.set_cons_succ, Option.toList_some, Option.toList_none, List.cons_append, List.nil_append]
    exact AW.ri rfl rfl rfl ⟨rfl, rfl⟩
theorem c_MisDigit (hs : m 243 12 = nI s) (hs1 : s ≤ 160) (hp : p ≤ s) : Meth l X d M_X11_isDigit [vR 12 243, vI (nI p)] m (fun r m' => r = some (vI (dgI (m 251) s p)) ∧ m' = m) := by
  refine E_X11_isDigit (ls := [vR 12 243, vI (nI p)]) rfl rfl ?_
  unfold dgI
  repeat refine AW.s rfl ?_
  try dsimp only [List.set_cons_zero, List.set_cons_succ, Option.toList_some, Option.toList_none, List.cons_append, List.nil_append]
  rw [hs]
  refine AW.b rfl (fun hc => ?_) (fun hc => ?_)
  · have hlt : p < s := (nI_ltI (by omega) (by omega)).mp hc
    rw [if_pos hlt]
    repeat refine AW.s rfl ?_
    try dsimp only [List.set_cons_zero, List.set_cons_succ, Option.toList_some, Option.toList_none, List.cons_append, List.nil_append]
    refine AW.c rfl (vp_in_nI (by omega) (by decide)) ?_
    try dsimp only [List.set_cons_zero, List.set_cons_succ, Option.toList_some, Option.toList_none, List.cons_append, List.nil_append]
    rw [nI_clamp (by omega)]
    repeat refine AW.s rfl ?_
    try dsimp only [List.set_cons_zero, List.set_cons_succ, Option.toList_some, Option.toList_none, List.cons_append, List.nil_append]
    refine AW.b rfl (fun hc => ?_) (fun hc => ?_)
    · rw [if_pos (show m 251 p < 48 from hc)]
      repeat refine AW.s rfl ?_
      try dsimp only [List.set_cons_zero, List.set_cons_succ, Option.toList_some, Option.toList_none, List.cons_append, List.nil_append]
      exact AW.ri rfl rfl rfl ⟨rfl, rfl⟩
    · rw [if_neg (show ¬ m 251 p < 48 from hc)]
      repeat refine AW.s rfl ?_
      try dsimp only [List.set_cons_zero, List.set_cons_succ, Option.toList_some, Option.toList_none, List.cons_append, List.nil_append]
      refine AW.c rfl (vp_in_nI (by omega) (by decide)) ?_
      try dsimp only [List.set_cons_zero, List.set_cons_succ, Option.toList_some, Option.toList_none, List.cons_append, List.nil_append]
      rw [nI_clamp (by omega)]
      repeat refine AW.s rfl ?_
      try dsimp only [List.set_cons_zero, List.set_cons_succ, Option.toList_some, Option.toList_none, List.cons_append, List.nil_append]
      refine AW.b rfl (fun hc => ?_) (fun hc => ?_)
      · rw [if_pos (show 57 < m 251 p from hc)]
        repeat refine AW.s rfl ?_
        try dsimp only [List.set_cons_zero, List.set_cons_succ, Option.toList_some, Option.toList_none, List.cons_append, List.nil_append]
        exact AW.ri rfl rfl rfl ⟨rfl, rfl⟩
      · rw [if_neg (show ¬ 57 < m 251 p from hc)]
        repeat refine AW.s rfl ?_
        try dsimp only [List.set_cons_zero, List.set_cons_succ, Option.toList_some, Option.toList_none, List.cons_append, List.nil_append]
        exact AW.ri rfl rfl rfl ⟨rfl, rfl⟩
  · rw [if_neg (fun q => hc (nI_lt q (by omega)))]
    repeat refine AW.s rfl ?_
    try dsimp only [List.set_cons_zero, List.set_cons_succ, Option.toList_some, Option.toList_none, List.cons_append, List.nil_append]
    exact AW.ri rfl rfl rfl ⟨rfl, rfl⟩
theorem c_MreadNumber (hd : 1 ≤ d) (hs : m 243 12 = nI s) (hs1 : s ≤ 160) (hp : p ≤ s) (hat : m 243 17 = nI p) (hpl : m 243 20 = nI p) : Meth l X d M_X11_readNumber [vR 12 243] m (fun r m' => r = none ∧ FK m m' ∧ m' 243 20 = nI p ∧ m' 243 17 = nI (nbF (m 251) (s - p) p 0).1 ∧ MTk (if 4 < (nbF (m 251) (s - p) p 0).1 - p then 1 else 2) (nbF (m 251) (s - p) p 0).2 (m' 243 18) (m' 243 19)) := by
  obtain ⟨d, rfl⟩ : ∃ e, d = e + 1 := ⟨d - 1, by omega⟩
  refine E_X11_readNumber (ls := [vR 12 243]) rfl rfl ?_
  repeat refine AW.u 5 rfl rfl ?_
  try dsimp only [List.set_cons_zero, List.set_cons_succ, Option.toList_some, Option.toList_none, List.cons_append, List.nil_append]
  refine AW.loop (pc := 5) (σ := Int32) (s - p) (fun i v => [vR 12 243]) (fun i v m1 => FK m m1 ∧ m1 243 20 = nI p ∧ m1 243 17 = nI (p + i) ∧ (i ≤ 4 → m1 243 19 = v) ∧ nbF (m 251) (s - p) p 0 = nbF (m 251) (s - (p + i)) (p + i) v) (fun i v m1 hi hm1 ih => ?_) 0 0 _ (Nat.zero_le _) ⟨FK.rf.u (by omega), by rw [mUp_n (Or.inr (by decide))]; exact hpl, by rw [mUp_n (Or.inr (by decide))]; exact hat, fun _ => mUp_s _ _ _ _, rfl⟩
  obtain ⟨g1, g2, g3, g4, g5⟩ := hm1
  have hs' : m1 243 12 = nI s := by rw [g1.2 12 (by decide) (by decide) (by decide) (by decide)]; exact hs
  have h251 : m1 251 = m 251 := g1.1 251 (by decide)
  repeat refine AW.s rfl ?_
  try dsimp only [List.set_cons_zero, List.set_cons_succ, Option.toList_some, Option.toList_none, List.cons_append, List.nil_append]
  rw [g3]
  refine AW.V k_11_94 ((c_MisDigit (s := s) (p := p + i) hs' hs1 (by omega))) rfl rfl rfl rfl rfl rfl (fun r1 m2 hq => ?_)
  obtain ⟨rfl, hm2⟩ := hq
  rw [hm2, h251]
  try dsimp only [List.set_cons_zero, List.set_cons_succ, Option.toList_some, Option.toList_none, List.cons_append, List.nil_append]
  by_cases q : dgI (m 251) s (p + i) = 1
  · obtain ⟨z1, z2⟩ := nbF_s (v := v) q
    rw [z1] at g5
    have hy : ∀ y : Int32, mUp m1 243 19 y 243 17 = nI (p + i) := fun y => by rw [mUp_n (Or.inr (by decide))]; exact g3
    rw [q]
    refine AW.b rfl (fun hc => ?_) (fun hc => ?_)
    · exact absurd hc (by decide)
    · repeat refine AW.s rfl ?_
      try dsimp only [List.set_cons_zero, List.set_cons_succ, Option.toList_some, Option.toList_none, List.cons_append, List.nil_append]
      rw [g3, g2, show nI (p + i) - nI p = nI i by rw [pk_sub (by omega), show p + i - p = i by omega]]
      refine AW.b rfl (fun hc => ?_) (fun hc => ?_)
      · have h4 : i < 4 := (nI_ltI (b := 4) (by omega) (by decide)).mp hc
        repeat refine AW.s rfl ?_
        try dsimp only [List.set_cons_zero, List.set_cons_succ, Option.toList_some, Option.toList_none, List.cons_append, List.nil_append]
        rw [g3, g4 (by omega)]
        refine AW.c rfl (vp_in_nI (by omega) (by decide)) ?_
        try dsimp only [List.set_cons_zero, List.set_cons_succ, Option.toList_some, Option.toList_none, List.cons_append, List.nil_append]
        rw [nI_clamp (by omega), show m1 (243 + 8) (p + i) = m 251 (p + i) from congrFun h251 _]
        repeat refine AW.u 5 rfl rfl ?_
        try dsimp only [List.set_cons_zero, List.set_cons_succ, Option.toList_some, Option.toList_none, List.cons_append, List.nil_append]
        rw [hy, nI_1]
        refine ih (v * 10 + m 251 (p + i) - 48) _ (by omega) ?_
        refine ⟨by exact FK.u (k := 17) (FK.u (k := 19) g1 (by omega)) (by omega), by rw [mUp_n (Or.inr (by decide)), mUp_n (Or.inr (by decide))]; exact g2, mUp_s _ _ _ _, fun _ => ?_, g5⟩
        rw [mUp_n (Or.inr (by decide)), mUp_s, Int32.mul_comm 10 v]
      · have h4 : ¬ i < 4 := fun z => hc (nI_lt (b := 4) z (by decide))
        repeat refine AW.u 5 rfl rfl ?_
        try dsimp only [List.set_cons_zero, List.set_cons_succ, Option.toList_some, Option.toList_none, List.cons_append, List.nil_append]
        rw [hy, nI_1]
        refine ih (v * 10 + m 251 (p + i) - 48) _ (by omega) ?_
        exact ⟨by exact FK.u (k := 17) (FK.u (k := 19) g1 (by omega)) (by omega), by rw [mUp_n (Or.inr (by decide)), mUp_n (Or.inr (by decide))]; exact g2, mUp_s _ _ _ _, fun z => absurd z (by omega), g5⟩
  · rw [nbF_z q] at g5
    have e0 : dgI (m 251) s (p + i) = 0 := by
      unfold dgI at q ⊢
      split at q
      · rename_i z
        rw [if_pos z]
        split at q
        · rename_i z2; rw [if_pos z2]
        · rename_i z2
          rw [if_neg z2]
          split at q
          · rename_i z3; rw [if_pos z3]
          · exact absurd rfl q
      · rename_i z; rw [if_neg z]
    rw [e0, g5]
    refine AW.b rfl (fun hc => ?_) (fun hc => ?_)
    · repeat refine AW.s rfl ?_
      try dsimp only [List.set_cons_zero, List.set_cons_succ, Option.toList_some, Option.toList_none, List.cons_append, List.nil_append]
      rw [g3, g2, show nI (p + i) - nI p = nI i by rw [pk_sub (by omega), show p + i - p = i by omega]]
      refine AW.b rfl (fun hc => ?_) (fun hc => ?_)
      · have h4 : 4 < i := (nI_ltI (a := 4) (by decide) (by omega)).mp hc
        repeat refine AW.s rfl ?_
        try dsimp only [List.set_cons_zero, List.set_cons_succ, Option.toList_some, Option.toList_none, List.cons_append, List.nil_append]
        refine AW.rv rfl rfl ⟨rfl, g1.u (by omega), by rw [mUp_n (Or.inr (by decide))]; exact g2, by rw [mUp_n (Or.inr (by decide))]; exact g3, Or.inr (Or.inl ⟨?_, mUp_s _ _ _ _⟩)⟩
        show (if 4 < p + i - p then (1 : Int32) else 2) = 1
        rw [if_pos (by omega)]
      · have h4 : ¬ 4 < i := fun z => hc (nI_lt (a := 4) z (by omega))
        repeat refine AW.s rfl ?_
        try dsimp only [List.set_cons_zero, List.set_cons_succ, Option.toList_some, Option.toList_none, List.cons_append, List.nil_append]
        refine AW.rv rfl rfl ⟨rfl, g1.u (by omega), by rw [mUp_n (Or.inr (by decide))]; exact g2, by rw [mUp_n (Or.inr (by decide))]; exact g3, Or.inr (Or.inr (Or.inl ⟨?_, mUp_s _ _ _ _, ?_⟩))⟩
        · show (if 4 < p + i - p then (1 : Int32) else 2) = 2
          rw [if_neg (by omega)]
        · rw [mUp_n (Or.inr (by decide))]; exact g4 (by omega)
    · exact absurd rfl hc
theorem c_MreadWord (hd : 1 ≤ d) (hI9 : ∀ k, k < 53 → m 254 k = LTC.getD k 0) (hI10 : ∀ k, k < 13 → m 255 k = nI (BGN.getD k 0)) (hs : m 243 12 = nI s) (hs1 : s ≤ 160) (hp : p ≤ s) (hat : m 243 17 = nI p) (hpl : m 243 20 = nI p) : Meth l X d M_X11_readWord [vR 12 243] m (fun r m' => r = none ∧ FK m m' ∧ m' 243 20 = nI p ∧ m' 243 17 = nI (wdF (m 251) (s - p) p) ∧ MTk (tokW (spF (m 251) p (wdF (m 251) (s - p) p) 12 0)).1 (tokW (spF (m 251) p (wdF (m 251) (s - p) p) 12 0)).2 (m' 243 18) (m' 243 19)) := by
  obtain ⟨d, rfl⟩ : ∃ e, d = e + 1 := ⟨d - 1, by omega⟩
  refine E_X11_readWord (ls := [vR 12 243, vU, vU, vU, vU]) rfl rfl ?_
  refine AW.loop (pc := 0) (σ := Unit) (s - p) (fun i _ => [vR 12 243, vU, vU, vU, vU]) (fun i _ m1 => FK m m1 ∧ m1 243 20 = nI p ∧ m1 243 17 = nI (p + i) ∧ wdF (m 251) (s - p) p = wdF (m 251) (s - (p + i)) (p + i)) (fun i _ m1 hi hm1 ih => ?_) 0 () m (Nat.zero_le _) ⟨FK.rf, hpl, hat, rfl⟩
  obtain ⟨g1, g2, g3, g5⟩ := hm1
  have hs' : m1 243 12 = nI s := by rw [g1.2 12 (by decide) (by decide) (by decide) (by decide)]; exact hs
  have h251 : m1 251 = m 251 := g1.1 251 (by decide)
  repeat refine AW.s rfl ?_
  try dsimp only [List.set_cons_zero, List.set_cons_succ, Option.toList_some, Option.toList_none, List.cons_append, List.nil_append]
  rw [g3]
  refine AW.V k_11_75 ((c_MisLetter (s := s) (p := p + i) hs' hs1 (by omega))) rfl rfl rfl rfl rfl rfl (fun r1 m2 hq => ?_)
  obtain ⟨rfl, hm2⟩ := hq
  rw [hm2, h251]
  try dsimp only [List.set_cons_zero, List.set_cons_succ, Option.toList_some, Option.toList_none, List.cons_append, List.nil_append]
  by_cases q : ltI (m 251) s (p + i) = 1
  · obtain ⟨z1, z2⟩ := wdF_s q
    rw [z1] at g5
    rw [q]
    refine AW.b rfl (fun hc => ?_) (fun hc => ?_)
    · exact absurd hc (by decide)
    · repeat refine AW.u 0 rfl rfl ?_
      try dsimp only [List.set_cons_zero, List.set_cons_succ, Option.toList_some, Option.toList_none, List.cons_append, List.nil_append]
      rw [g3, nI_1]
      exact ih () _ (by omega) ⟨by exact FK.u (k := 17) g1 (by omega), by rw [mUp_n (Or.inr (by decide))]; exact g2, mUp_s _ _ _ _, g5⟩
  · rw [wdF_z q] at g5
    have e0 : ltI (m 251) s (p + i) = 0 := by
      unfold ltI at q ⊢
      split at q
      · rename_i z
        rw [if_pos z]
        split at q
        · rename_i z2; rw [if_pos z2]
        · rename_i z2
          rw [if_neg z2]
          split at q
          · rename_i z3; rw [if_pos z3]
          · exact absurd rfl q
      · rename_i z; rw [if_neg z]
    rw [e0, g5]
    have hpe : p + i ≤ s := by omega
    generalize he : p + i = e at *
    refine AW.b rfl (fun hc => ?_) (fun hc => ?_)
    · repeat refine AW.u 32 rfl rfl ?_
      try dsimp only [List.set_cons_zero, List.set_cons_succ, Option.toList_some, Option.toList_none, List.cons_append, List.nil_append]
      refine AW.loop (pc := 32) (σ := Unit) 12 (fun i _ => [vR 12 243, vI (nI i), vU, vU, vU]) (fun i _ m3 => FK m m3 ∧ m3 243 20 = nI p ∧ m3 243 17 = nI e ∧ (∀ j, j < i → spB (m 251) p e j = true → m3 243 18 = (if j < 6 then 2 else 3) ∧ m3 243 19 = nI (if j < 6 then j else j - 6)) ∧ ((∀ j, j < i → ¬ spB (m 251) p e j = true) → m3 243 18 = 6)) (fun i _ m3 hi hm3 ih2 => ?_) 0 () _ (Nat.zero_le _) ⟨by exact FK.u (k := 18) g1 (by omega), by rw [mUp_n (Or.inr (by decide))]; exact g2, by rw [mUp_n (Or.inr (by decide))]; exact g3, fun j hj => absurd hj (by omega), fun _ => mUp_s _ _ _ _⟩
      obtain ⟨k1, k2, k3, k4, k5⟩ := hm3
      repeat refine AW.s rfl ?_
      try dsimp only [List.set_cons_zero, List.set_cons_succ, Option.toList_some, Option.toList_none, List.cons_append, List.nil_append]
      refine AW.b rfl (fun hc => ?_) (fun hc => ?_)
      · have hlt : i < 12 := (nI_ltI (b := 12) (by omega) (by decide)).mp hc
        obtain ⟨b1, b2, b3, b4⟩ := bgn_ok i hlt
        have c255 : ∀ k, k < 13 → m3 (243 + 12) k = nI (BGN.getD k 0) := fun k hk => by rw [show (243 + 12 : Nat) = 255 from rfl, k1.1 255 (by decide)]; exact hI10 k hk
        repeat refine AW.s rfl ?_
        try dsimp only [List.set_cons_zero, List.set_cons_succ, Option.toList_some, Option.toList_none, List.cons_append, List.nil_append]
        rw [nI_1]
        refine AW.c rfl (vp_in_nI (by omega) (by decide)) ?_
        try dsimp only [List.set_cons_zero, List.set_cons_succ, Option.toList_some, Option.toList_none, List.cons_append, List.nil_append]
        rw [nI_clamp (by omega), c255 _ (by omega)]
        repeat refine AW.s rfl ?_
        try dsimp only [List.set_cons_zero, List.set_cons_succ, Option.toList_some, Option.toList_none, List.cons_append, List.nil_append]
        refine AW.c rfl (vp_in_nI (by omega) (by decide)) ?_
        try dsimp only [List.set_cons_zero, List.set_cons_succ, Option.toList_some, Option.toList_none, List.cons_append, List.nil_append]
        rw [nI_clamp (by omega), c255 _ (by omega)]
        -- behind the comparison
        have fin : ∀ bb : Bool, (bb = true ↔ spB (m 251) p e i = true) → ∀ j : Nat, AW (GM l X (d + 1) M_X11_readWord (fun r m' => r = none ∧ FK m m' ∧ m' 243 20 = nI p ∧ m' 243 17 = nI e ∧ MTk (tokW (spF (m 251) p e 12 0)).1 (tokW (spF (m 251) p e 12 0)).2 (m' 243 18) (m' 243 19))) 127 [vR 12 243, vI (nI i), vI (nI (SLN.getD (i + 1) 0)), vI (if bb then 1 else 0), vI (nI j)] [] m3 := by
          intro bb hbb j
          repeat refine AW.s rfl ?_
          try dsimp only [List.set_cons_zero, List.set_cons_succ, Option.toList_some, Option.toList_none, List.cons_append, List.nil_append]
          cases bb with
          | false =>
            have hn : ¬ spB (m 251) p e i = true := fun z => absurd (hbb.mpr z) (by decide)
            refine AW.b rfl (fun hc => ?_) (fun hc => ?_)
            · repeat refine AW.u 32 rfl rfl ?_
              try dsimp only [List.set_cons_zero, List.set_cons_succ, Option.toList_some, Option.toList_none, List.cons_append, List.nil_append]
              rw [nI_1]
              refine AW.fg 2 ?_
              refine AW.fg 3 ?_
              refine AW.fg 4 ?_
              try dsimp only [List.set_cons_zero, List.set_cons_succ, Option.toList_some, Option.toList_none, List.cons_append, List.nil_append]
              refine ih2 () m3 hlt ⟨k1, k2, k3, fun j hj hz => ?_, fun hz => k5 (fun j hj => hz j (by omega))⟩
              by_cases ej : j = i
              · subst ej; exact absurd hz hn
              · exact k4 j (by omega) hz
            · exact absurd rfl hc
          | true =>
            have hy := hbb.mp rfl
            refine AW.b rfl (fun hc => ?_) (fun hc => ?_)
            · exact absurd (show (1 : Int32) = 0 from hc) (by decide)
            · repeat refine AW.s rfl ?_
              try dsimp only [List.set_cons_zero, List.set_cons_succ, Option.toList_some, Option.toList_none, List.cons_append, List.nil_append]
              refine AW.b rfl (fun hc => ?_) (fun hc => ?_)
              · have h6 : i < 6 := (nI_ltI (b := 6) (by omega) (by decide)).mp hc
                repeat refine AW.s rfl ?_
                try dsimp only [List.set_cons_zero, List.set_cons_succ, Option.toList_some, Option.toList_none, List.cons_append, List.nil_append]
                refine AW.b rfl (fun hc => ?_) (fun hc => ?_)
                · repeat refine AW.u 32 rfl rfl ?_
                  try dsimp only [List.set_cons_zero, List.set_cons_succ, Option.toList_some, Option.toList_none, List.cons_append, List.nil_append]
                  rw [nI_1]
                  refine AW.fg 2 ?_
                  refine AW.fg 3 ?_
                  refine AW.fg 4 ?_
                  try dsimp only [List.set_cons_zero, List.set_cons_succ, Option.toList_some, Option.toList_none, List.cons_append, List.nil_append]
                  refine ih2 () _ hlt ⟨by exact FK.u (k := 19) (FK.u (k := 18) k1 (by omega)) (by omega), by rw [mUp_n (Or.inr (by decide)), mUp_n (Or.inr (by decide))]; exact k2, by rw [mUp_n (Or.inr (by decide)), mUp_n (Or.inr (by decide))]; exact k3, fun j hj hz => ?_, fun hz => absurd hy (hz i (by omega))⟩
                  have ej : j = i := spB_u (by omega) hlt hz hy
                  subst ej
                  rw [if_pos h6, if_pos h6]
                  exact ⟨by rw [mUp_n (Or.inr (by decide)), mUp_s], mUp_s _ _ _ _⟩
                · exact absurd (nI_lt (b := 6) h6 (by decide)) hc
              · have h6 : ¬ i < 6 := fun z => hc (nI_lt (b := 6) z (by decide))
                repeat refine AW.s rfl ?_
                try dsimp only [List.set_cons_zero, List.set_cons_succ, Option.toList_some, Option.toList_none, List.cons_append, List.nil_append]
                refine AW.b rfl (fun hc => ?_) (fun hc => ?_)
                · exact absurd ((nI_ltI (b := 6) (by omega) (by decide)).mp hc) h6
                · repeat refine AW.u 32 rfl rfl ?_
                  try dsimp only [List.set_cons_zero, List.set_cons_succ, Option.toList_some, Option.toList_none, List.cons_append, List.nil_append]
                  rw [nI_1, show nI i - 6 = nI (i - 6) from pk_sub (b := 6) (by omega)]
                  refine AW.fg 2 ?_
                  refine AW.fg 3 ?_
                  refine AW.fg 4 ?_
                  try dsimp only [List.set_cons_zero, List.set_cons_succ, Option.toList_some, Option.toList_none, List.cons_append, List.nil_append]
                  refine ih2 () _ hlt ⟨by exact FK.u (k := 19) (FK.u (k := 18) k1 (by omega)) (by omega), by rw [mUp_n (Or.inr (by decide)), mUp_n (Or.inr (by decide))]; exact k2, by rw [mUp_n (Or.inr (by decide)), mUp_n (Or.inr (by decide))]; exact k3, fun j hj hz => ?_, fun hz => absurd hy (hz i (by omega))⟩
                  have ej : j = i := spB_u (by omega) hlt hz hy
                  subst ej
                  rw [if_neg h6, if_neg h6]
                  exact ⟨by rw [mUp_n (Or.inr (by decide)), mUp_s], mUp_s _ _ _ _⟩
        -- the comparison
        have lp : ∀ b0 : Bool, (b0 = true ↔ SLN.getD (i + 1) 0 = e - p) → AW (GM l X (d + 1) M_X11_readWord (fun r m' => r = none ∧ FK m m' ∧ m' 243 20 = nI p ∧ m' 243 17 = nI e ∧ MTk (tokW (spF (m 251) p e 12 0)).1 (tokW (spF (m 251) p e 12 0)).2 (m' 243 18) (m' 243 19))) 76 [vR 12 243, vI (nI i), vI (nI (SLN.getD (i + 1) 0)), vI (if b0 then 1 else 0), vI (nI 0)] [] m3 := by
          intro b0 hb0
          refine AW.loop (pc := 76) (σ := Bool) (SLN.getD (i + 1) 0) (fun j bb => [vR 12 243, vI (nI i), vI (nI (SLN.getD (i + 1) 0)), vI (if bb then 1 else 0), vI (nI j)]) (fun j bb mm => mm = m3 ∧ (bb = true ↔ SLN.getD (i + 1) 0 = e - p ∧ ∀ k, k < j → m 251 (p + k) = (SBY.getD (i + 1) []).getD k 0)) (fun j bb mm hj hmm ih3 => ?_) 0 b0 m3 (Nat.zero_le _) ⟨rfl, ⟨fun z => ⟨hb0.mp z, fun k hk => absurd hk (by omega)⟩, fun z => hb0.mpr z.1⟩⟩
          obtain ⟨rfl, hbb⟩ := hmm
          repeat refine AW.s rfl ?_
          try dsimp only [List.set_cons_zero, List.set_cons_succ, Option.toList_some, Option.toList_none, List.cons_append, List.nil_append]
          refine AW.b rfl (fun hc => ?_) (fun hc => ?_)
          · have hlj : j < SLN.getD (i + 1) 0 := (nI_ltI (by omega) (by omega)).mp hc
            repeat refine AW.s rfl ?_
            try dsimp only [List.set_cons_zero, List.set_cons_succ, Option.toList_some, Option.toList_none, List.cons_append, List.nil_append]
            cases bb with
            | false =>
              refine AW.b rfl (fun hc => ?_) (fun hc => ?_)
              · exact fin false ⟨fun z => (by cases z), fun z => by
                  obtain ⟨z1, z2⟩ := spB_1.mp z
                  exact absurd (hbb.mpr ⟨z1, fun k hk => z2 k (by omega)⟩) (by decide)⟩ j
              · exact absurd rfl hc
            | true =>
              obtain ⟨y1, y2⟩ := hbb.mp rfl
              refine AW.b rfl (fun hc => ?_) (fun hc => ?_)
              · exact absurd (show (1 : Int32) = 0 from hc) (by decide)
              · repeat refine AW.s rfl ?_
                try dsimp only [List.set_cons_zero, List.set_cons_succ, Option.toList_some, Option.toList_none, List.cons_append, List.nil_append]
                rw [k2, nI_add]
                refine AW.c rfl (vp_in_nI (by omega) (by decide)) ?_
                try dsimp only [List.set_cons_zero, List.set_cons_succ, Option.toList_some, Option.toList_none, List.cons_append, List.nil_append]
                rw [nI_clamp (by omega), show mm (243 + 8) (p + j) = m 251 (p + j) from congrFun (k1.1 251 (by decide)) _]
                repeat refine AW.s rfl ?_
                try dsimp only [List.set_cons_zero, List.set_cons_succ, Option.toList_some, Option.toList_none, List.cons_append, List.nil_append]
                refine AW.c rfl (vp_in_nI (by omega) (by decide)) ?_
                try dsimp only [List.set_cons_zero, List.set_cons_succ, Option.toList_some, Option.toList_none, List.cons_append, List.nil_append]
                rw [nI_clamp (by omega), c255 _ (by omega)]
                repeat refine AW.s rfl ?_
                try dsimp only [List.set_cons_zero, List.set_cons_succ, Option.toList_some, Option.toList_none, List.cons_append, List.nil_append]
                rw [nI_add]
                refine AW.c rfl (vp_in_nI (by omega) (by decide)) ?_
                try dsimp only [List.set_cons_zero, List.set_cons_succ, Option.toList_some, Option.toList_none, List.cons_append, List.nil_append]
                rw [nI_clamp (by omega), show mm (243 + 11) (BGN.getD i 0 + j) = (SBY.getD (i + 1) []).getD j 0 by rw [show (243 + 11 : Nat) = 254 from rfl, k1.1 254 (by decide), hI9 _ (by omega)]; exact b4 j hlj]
                refine AW.b rfl (fun hc => ?_) (fun hc => ?_)
                · have e1 := hc
                  repeat refine AW.u 76 rfl rfl ?_
                  try dsimp only [List.set_cons_zero, List.set_cons_succ, Option.toList_some, Option.toList_none, List.cons_append, List.nil_append]
                  rw [nI_1]
                  refine ih3 true mm hlj ⟨rfl, ⟨fun _ => ⟨y1, fun k hk => ?_⟩, fun _ => rfl⟩⟩
                  by_cases ek : k = j
                  · subst ek; exact e1
                  · exact y2 k (by omega)
                · have e1 := hc
                  repeat refine AW.u 76 rfl rfl ?_
                  try dsimp only [List.set_cons_zero, List.set_cons_succ, Option.toList_some, Option.toList_none, List.cons_append, List.nil_append]
                  rw [nI_1]
                  exact ih3 false mm hlj ⟨rfl, ⟨fun z => (by cases z), fun z => absurd (z.2 j (by omega)) e1⟩⟩
          · have : j = SLN.getD (i + 1) 0 := by
              have : ¬ j < SLN.getD (i + 1) 0 := fun q => hc ((nI_ltI (by omega) (by omega)).mpr q)
              omega
            subst this
            refine fin bb ⟨fun z => ?_, fun z => ?_⟩ _
            · obtain ⟨z1, z2⟩ := hbb.mp z
              exact spB_1.mpr ⟨z1, fun k hk => z2 k (by omega)⟩
            · obtain ⟨z1, z2⟩ := spB_1.mp z
              exact hbb.mpr ⟨z1, fun k hk => z2 k (by omega)⟩
        repeat refine AW.s rfl ?_
        try dsimp only [List.set_cons_zero, List.set_cons_succ, Option.toList_some, Option.toList_none, List.cons_append, List.nil_append]
        rw [pk_sub b1, ← b3, k3, k2, pk_sub (show p ≤ e by omega)]
        refine AW.b rfl (fun hc => ?_) (fun hc => ?_)
        · have e1 : SLN.getD (i + 1) 0 = e - p := (nI_eq (by omega) (by omega)).mp hc
          repeat refine AW.u 76 rfl rfl ?_
          try dsimp only [List.set_cons_zero, List.set_cons_succ, Option.toList_some, Option.toList_none, List.cons_append, List.nil_append]
          exact lp true ⟨fun _ => e1, fun _ => rfl⟩
        · have e1 : ¬ SLN.getD (i + 1) 0 = e - p := fun z => hc (by rw [z])
          repeat refine AW.u 76 rfl rfl ?_
          try dsimp only [List.set_cons_zero, List.set_cons_succ, Option.toList_some, Option.toList_none, List.cons_append, List.nil_append]
          exact lp false ⟨fun z => (by cases z), fun z => absurd z e1⟩
      · have : i = 12 := by
          have : ¬ i < 12 := fun q => hc (nI_lt (b := 12) q (by decide))
          omega
        subst this
        repeat refine AW.s rfl ?_
        try dsimp only [List.set_cons_zero, List.set_cons_succ, Option.toList_some, Option.toList_none, List.cons_append, List.nil_append]
        refine AW.rv rfl rfl ⟨rfl, k1, k2, k3, ?_⟩
        rcases spF_is (g := m 251) (p := p) (e := e) 12 0 rfl with ⟨x1, x2⟩ | ⟨x1, x2⟩
        · rw [x1]
          exact Or.inr (Or.inl ⟨rfl, k5 (fun j hj => x2 j (by omega) hj)⟩)
        · generalize spF (m 251) p e 12 0 = j at *
          obtain ⟨w1, w2⟩ := k4 j x1 x2
          unfold tokW
          rw [if_neg (by omega), w1, w2]
          by_cases h6 : j < 6
          · rw [if_pos h6, if_pos h6, if_pos h6]
            exact Or.inr (Or.inr (Or.inr (Or.inl ⟨rfl, rfl, rfl⟩)))
          · rw [if_neg h6, if_neg h6, if_neg h6]
            exact Or.inr (Or.inr (Or.inr (Or.inr (Or.inl ⟨j - 6, by omega, by rw [show 4 + (j - 6) = j - 2 by omega], rfl, rfl⟩))))
    · exact absurd rfl hc
end
