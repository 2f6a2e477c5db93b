theorem RepS.u2 {m : Mem} {S i v : Nat} {σ : Sg} (hs : RepS m S σ) (hw8 : σ 0 1 ≤ 8) : RepS (mUp m (S + 11) i (nI v)) S (sU σ 2 i v) := by
  obtain ⟨h1, h2, h3, h4, h5, h7, h8, h9⟩ := hs
  have fm : ∀ a, a ≠ S + 11 → mUp m (S + 11) i (nI v) a = m a := fun a e => mUp_a e
  have gn : ∀ a k, a ≠ 2 → sU σ 2 i v a k = σ a k := fun _ _ e => sU_n (Or.inl e)
  unfold RepS
  rw [gn 0 0 (by decide), gn 0 1 (by decide), gn 0 2 (by decide), gn 0 3 (by decide), gn 0 4 (by decide), fm S (by omega), fm (S + 15) (by omega)]
  refine ⟨h1, h2, h3, h4, fun w hw => ?_, fun r hr => ?_, h8, fun j hj => ?_⟩
  · obtain ⟨y1, y2, y3⟩ := h5 w hw
    refine ⟨by rw [fm _ (by omega), gn _ _ (by decide)]; exact y1, by
      by_cases e : w = i
      · subst e; rw [mUp_s, sU_s]
      · rw [mUp_n (Or.inr e), sU_n (Or.inr e)]; exact y2, fun k hk => ?_⟩
    rw [gn 1 w (by decide)] at hk
    rw [fm _ (by omega), gn (10 + w) k (by omega)]
    exact y3 k hk
  · obtain ⟨y1, y2, y3⟩ := h7 r hr
    refine ⟨by rw [fm _ (by omega), gn _ _ (by decide)]; exact y1, by rw [fm _ (by omega), gn _ _ (by decide)]; exact y2, by rw [fm _ (by omega), gn _ _ (by decide)]; exact y3⟩
  · exact by rw [fm _ (by omega), gn _ _ (by decide)]; exact (h9 j hj)
theorem RepS.u4 {m : Mem} {S i v : Nat} {σ : Sg} (hs : RepS m S σ) (hw8 : σ 0 1 ≤ 8) : RepS (mUp m (S + 13) i (nI v)) S (sU σ 4 i v) := by
  obtain ⟨h1, h2, h3, h4, h5, h7, h8, h9⟩ := hs
  have fm : ∀ a, a ≠ S + 13 → mUp m (S + 13) i (nI v) a = m a := fun a e => mUp_a e
  have gn : ∀ a k, a ≠ 4 → sU σ 4 i v a k = σ a k := fun _ _ e => sU_n (Or.inl e)
  unfold RepS
  rw [gn 0 0 (by decide), gn 0 1 (by decide), gn 0 2 (by decide), gn 0 3 (by decide), gn 0 4 (by decide), fm S (by omega), fm (S + 15) (by omega)]
  refine ⟨h1, h2, h3, h4, fun w hw => ?_, fun r hr => ?_, h8, fun j hj => ?_⟩
  · obtain ⟨y1, y2, y3⟩ := h5 w hw
    refine ⟨by rw [fm _ (by omega), gn _ _ (by decide)]; exact y1, by rw [fm _ (by omega), gn _ _ (by decide)]; exact y2, fun k hk => ?_⟩
    rw [gn 1 w (by decide)] at hk
    rw [fm _ (by omega), gn (10 + w) k (by omega)]
    exact y3 k hk
  · obtain ⟨y1, y2, y3⟩ := h7 r hr
    refine ⟨by rw [fm _ (by omega), gn _ _ (by decide)]; exact y1, by
      by_cases e : r = i
      · subst e; rw [mUp_s, sU_s]
      · rw [mUp_n (Or.inr e), sU_n (Or.inr e)]; exact y2, by rw [fm _ (by omega), gn _ _ (by decide)]; exact y3⟩
  · exact by rw [fm _ (by omega), gn _ _ (by decide)]; exact (h9 j hj)
theorem RepS.u5 {m : Mem} {S i v : Nat} {σ : Sg} (hs : RepS m S σ) (hw8 : σ 0 1 ≤ 8) : RepS (mUp m (S + 14) i (nI v)) S (sU σ 5 i v) := by
  obtain ⟨h1, h2, h3, h4, h5, h7, h8, h9⟩ := hs
  have fm : ∀ a, a ≠ S + 14 → mUp m (S + 14) i (nI v) a = m a := fun a e => mUp_a e
  have gn : ∀ a k, a ≠ 5 → sU σ 5 i v a k = σ a k := fun _ _ e => sU_n (Or.inl e)
  unfold RepS
  rw [gn 0 0 (by decide), gn 0 1 (by decide), gn 0 2 (by decide), gn 0 3 (by decide), gn 0 4 (by decide), fm S (by omega), fm (S + 15) (by omega)]
  refine ⟨h1, h2, h3, h4, fun w hw => ?_, fun r hr => ?_, h8, fun j hj => ?_⟩
  · obtain ⟨y1, y2, y3⟩ := h5 w hw
    refine ⟨by rw [fm _ (by omega), gn _ _ (by decide)]; exact y1, by rw [fm _ (by omega), gn _ _ (by decide)]; exact y2, fun k hk => ?_⟩
    rw [gn 1 w (by decide)] at hk
    rw [fm _ (by omega), gn (10 + w) k (by omega)]
    exact y3 k hk
  · obtain ⟨y1, y2, y3⟩ := h7 r hr
    refine ⟨by rw [fm _ (by omega), gn _ _ (by decide)]; exact y1, by rw [fm _ (by omega), gn _ _ (by decide)]; exact y2, by
      by_cases e : r = i
      · subst e; rw [mUp_s, sU_s]
      · rw [mUp_n (Or.inr e), sU_n (Or.inr e)]; exact y3⟩
  · exact by rw [fm _ (by omega), gn _ _ (by decide)]; exact (h9 j hj)
theorem RepS.u6 {m : Mem} {S i v : Nat} {σ : Sg} (hs : RepS m S σ) (hw8 : σ 0 1 ≤ 8) : RepS (mUp m (S + 16) i (nI v)) S (sU σ 6 i v) := by
  obtain ⟨h1, h2, h3, h4, h5, h7, h8, h9⟩ := hs
  have fm : ∀ a, a ≠ S + 16 → mUp m (S + 16) i (nI v) a = m a := fun a e => mUp_a e
  have gn : ∀ a k, a ≠ 6 → sU σ 6 i v a k = σ a k := fun _ _ e => sU_n (Or.inl e)
  unfold RepS
  rw [gn 0 0 (by decide), gn 0 1 (by decide), gn 0 2 (by decide), gn 0 3 (by decide), gn 0 4 (by decide), fm S (by omega), fm (S + 15) (by omega)]
  refine ⟨h1, h2, h3, h4, fun w hw => ?_, fun r hr => ?_, h8, fun j hj => ?_⟩
  · obtain ⟨y1, y2, y3⟩ := h5 w hw
    refine ⟨by rw [fm _ (by omega), gn _ _ (by decide)]; exact y1, by rw [fm _ (by omega), gn _ _ (by decide)]; exact y2, fun k hk => ?_⟩
    rw [gn 1 w (by decide)] at hk
    rw [fm _ (by omega), gn (10 + w) k (by omega)]
    exact y3 k hk
  · obtain ⟨y1, y2, y3⟩ := h7 r hr
    refine ⟨by rw [fm _ (by omega), gn _ _ (by decide)]; exact y1, by rw [fm _ (by omega), gn _ _ (by decide)]; exact y2, by rw [fm _ (by omega), gn _ _ (by decide)]; exact y3⟩
  · exact by
      by_cases e : j = i
      · subst e; rw [mUp_s, sU_s]
      · rw [mUp_n (Or.inr e), sU_n (Or.inr e)]; exact (h9 j hj)
theorem RepS.u0 {m : Mem} {S v : Nat} {σ : Sg} (hs : RepS m S σ) (hw8 : σ 0 1 ≤ 8) : RepS (mUp m S 0 (nI v)) S (sU σ 0 0 v) := by
  obtain ⟨h1, h2, h3, h4, h5, h7, h8, h9⟩ := hs
  have fm : ∀ a, a ≠ S → mUp m S 0 (nI v) a = m a := fun a e => mUp_a e
  have gn : ∀ a k, a ≠ 0 ∨ k ≠ 0 → sU σ 0 0 v a k = σ a k := fun _ _ e => sU_n e
  unfold RepS
  rw [sU_s, mUp_s, gn 0 1 (by decide), gn 0 2 (by decide), gn 0 3 (by decide), gn 0 4 (by decide), mUp_n (j := 4) (Or.inr (by decide)), mUp_n (j := 8) (Or.inr (by decide)), mUp_n (j := 10) (Or.inr (by decide)), fm (S + 15) (by omega)]
  refine ⟨rfl, h2, h3, h4, fun w hw => ?_, fun r hr => ?_, h8, fun j hj => ?_⟩
  · obtain ⟨y1, y2, y3⟩ := h5 w hw
    refine ⟨by rw [fm _ (by omega), gn _ _ (Or.inl (by decide))]; exact y1, by rw [fm _ (by omega), gn _ _ (Or.inl (by decide))]; exact y2, fun k hk => ?_⟩
    rw [gn 1 w (Or.inl (by decide))] at hk
    rw [fm _ (by omega), gn (10 + w) k (Or.inl (by omega))]
    exact y3 k hk
  · obtain ⟨y1, y2, y3⟩ := h7 r hr
    exact ⟨by rw [fm _ (by omega), gn _ _ (Or.inl (by decide))]; exact y1, by rw [fm _ (by omega), gn _ _ (Or.inl (by decide))]; exact y2, by rw [fm _ (by omega), gn _ _ (Or.inl (by decide))]; exact y3⟩
  · rw [fm _ (by omega), gn _ _ (Or.inl (by decide))]; exact h9 j hj
/-- with a part changed -/
def chgS (σ : Sg) (t i v : Nat) : Sg := if t = 0 then sU σ 0 0 v else if t = 1 then sU σ 2 i v else if t = 2 then sU σ 4 i v else if t = 3 then sU σ 5 i v else sU σ 6 i v
theorem c_change {l : Launch} {X : XT} {d : Nat} {t i v : Nat} {m : Mem} {σ : Sg} (hs : RepS m 1 σ) (hσ : WF σ) (ho : ptOK σ t i) : Meth l X d M_X7_change [vR 8 1, vI (nI t), vI (nI i), vI (nI v)] m (fun r m' => r = none ∧ RepS m' 1 (chgS σ t i v) ∧ ∀ a, (a < 1 ∨ 17 < a) → m' a = m a) := by
  have b1 := hσ.2.1
  have b2 := hσ.2.2.1
  have b3 := hσ.2.2.2.1
  refine E_X7_change (ls := [vR 8 1, vI (nI t), vI (nI i), vI (nI v)]) rfl rfl ?_
  repeat refine AW.s rfl ?_
  try dsimp only [List.set_cons_zero, List.set_cons_succ, Option.toList_some, Option.toList_none, List.cons_append, List.nil_append]
  rcases ho with rfl | ⟨rfl, hi⟩ | ⟨rfl, hi⟩ | ⟨rfl, hi⟩ | ⟨rfl, hi⟩
  · refine AW.tin (tgt := 32) rfl (by decide) (by decide) rfl (by decide) ?_
    repeat refine AW.s rfl ?_
    try dsimp only [List.set_cons_zero, List.set_cons_succ, Option.toList_some, Option.toList_none, List.cons_append, List.nil_append]
    exact AW.rv rfl rfl ⟨rfl, hs.u0 b1, fun a ha => mUp_a (by omega)⟩
  · refine AW.tin (tgt := 40) rfl (by decide) (by decide) rfl (by decide) ?_
    repeat refine AW.s rfl ?_
    try dsimp only [List.set_cons_zero, List.set_cons_succ, Option.toList_some, Option.toList_none, List.cons_append, List.nil_append]
    refine AW.c rfl (⟨vp_in_nI (by omega) (by decide), fun z => absurd z (by decide)⟩) ?_
    try dsimp only [List.set_cons_zero, List.set_cons_succ, Option.toList_some, Option.toList_none, List.cons_append, List.nil_append]
    rw [nI_clamp (by omega)]
    repeat refine AW.s rfl ?_
    try dsimp only [List.set_cons_zero, List.set_cons_succ, Option.toList_some, Option.toList_none, List.cons_append, List.nil_append]
    exact AW.rv rfl rfl ⟨rfl, hs.u2 b1, fun a ha => mUp_a (by omega)⟩
  · refine AW.tin (tgt := 50) rfl (by decide) (by decide) rfl (by decide) ?_
    repeat refine AW.s rfl ?_
    try dsimp only [List.set_cons_zero, List.set_cons_succ, Option.toList_some, Option.toList_none, List.cons_append, List.nil_append]
    refine AW.c rfl (⟨vp_in_nI (by omega) (by decide), fun z => absurd z (by decide)⟩) ?_
    try dsimp only [List.set_cons_zero, List.set_cons_succ, Option.toList_some, Option.toList_none, List.cons_append, List.nil_append]
    rw [nI_clamp (by omega)]
    repeat refine AW.s rfl ?_
    try dsimp only [List.set_cons_zero, List.set_cons_succ, Option.toList_some, Option.toList_none, List.cons_append, List.nil_append]
    exact AW.rv rfl rfl ⟨rfl, hs.u4 b1, fun a ha => mUp_a (by omega)⟩
  · refine AW.tin (tgt := 60) rfl (by decide) (by decide) rfl (by decide) ?_
    repeat refine AW.s rfl ?_
    try dsimp only [List.set_cons_zero, List.set_cons_succ, Option.toList_some, Option.toList_none, List.cons_append, List.nil_append]
    refine AW.c rfl (⟨vp_in_nI (by omega) (by decide), fun z => absurd z (by decide)⟩) ?_
    try dsimp only [List.set_cons_zero, List.set_cons_succ, Option.toList_some, Option.toList_none, List.cons_append, List.nil_append]
    rw [nI_clamp (by omega)]
    repeat refine AW.s rfl ?_
    try dsimp only [List.set_cons_zero, List.set_cons_succ, Option.toList_some, Option.toList_none, List.cons_append, List.nil_append]
    exact AW.rv rfl rfl ⟨rfl, hs.u5 b1, fun a ha => mUp_a (by omega)⟩
  · refine AW.tout (tgt := 70) rfl (by decide) (by decide) ?_
    repeat refine AW.s rfl ?_
    try dsimp only [List.set_cons_zero, List.set_cons_succ, Option.toList_some, Option.toList_none, List.cons_append, List.nil_append]
    refine AW.c rfl (⟨vp_in_nI (by omega) (by decide), fun z => absurd z (by decide)⟩) ?_
    try dsimp only [List.set_cons_zero, List.set_cons_succ, Option.toList_some, Option.toList_none, List.cons_append, List.nil_append]
    rw [nI_clamp (by omega)]
    repeat refine AW.s rfl ?_
    try dsimp only [List.set_cons_zero, List.set_cons_succ, Option.toList_some, Option.toList_none, List.cons_append, List.nil_append]
    exact AW.rv rfl rfl ⟨rfl, hs.u6 b1, fun a ha => mUp_a (by omega)⟩
theorem WF.chg {σ : Sg} (h : WF σ) {t i v : Nat} (hv : (t = 0 ∧ v < 2 ^ 26) ∨ (t = 1 ∧ v ≤ 99) ∨ (t = 2 ∧ v < 26) ∨ (t = 3 ∧ v < 26) ∨ (t = 4 ∧ v < σ 0 2)) : WF (chgS σ t i v) := by
  obtain ⟨h1, h2, h3, h4, h5, h6, h7, h8⟩ := h
  rcases hv with ⟨rfl, hv⟩ | ⟨rfl, hv⟩ | ⟨rfl, hv⟩ | ⟨rfl, hv⟩ | ⟨rfl, hv⟩
  · refine ⟨hv, h2, h3, h4, h5, fun w hw => ?_, h7, h8⟩
    obtain ⟨y1, y2, y3, y4⟩ := h6 w hw
    refine ⟨y1, y2, y3, fun k hk => ?_⟩
    show sU σ 0 0 v (10 + w) k < 26
    rw [sU_n (Or.inl (by omega))]
    exact y4 k hk
  · refine ⟨h1, h2, h3, h4, h5, fun w hw => ?_, h7, h8⟩
    obtain ⟨y1, y2, y3, y4⟩ := h6 w hw
    refine ⟨y1, y2, ?_, fun k hk => ?_⟩
    · show sU σ 2 i v 2 w ≤ 99
      by_cases e : w = i
      · subst e; rw [sU_s]; exact hv
      · rw [sU_n (Or.inr e)]; exact y3
    · show sU σ 2 i v (10 + w) k < 26
      rw [sU_n (Or.inl (by omega))]
      exact y4 k hk
  · refine ⟨h1, h2, h3, h4, h5, fun w hw => ?_, fun r hr => ?_, h8⟩
    · obtain ⟨y1, y2, y3, y4⟩ := h6 w hw
      refine ⟨y1, y2, y3, fun k hk => ?_⟩
      show sU σ 4 i v (10 + w) k < 26
      rw [sU_n (Or.inl (by omega))]
      exact y4 k hk
    · obtain ⟨y1, y2, y3⟩ := h7 r hr
      refine ⟨y1, ?_, y3⟩
      show sU σ 4 i v 4 r < 26
      by_cases e : r = i
      · subst e; rw [sU_s]; exact hv
      · rw [sU_n (Or.inr e)]; exact y2
  · refine ⟨h1, h2, h3, h4, h5, fun w hw => ?_, fun r hr => ?_, h8⟩
    · obtain ⟨y1, y2, y3, y4⟩ := h6 w hw
      refine ⟨y1, y2, y3, fun k hk => ?_⟩
      show sU σ 5 i v (10 + w) k < 26
      rw [sU_n (Or.inl (by omega))]
      exact y4 k hk
    · obtain ⟨y1, y2, y3⟩ := h7 r hr
      refine ⟨y1, y2, ?_⟩
      show sU σ 5 i v 5 r < 26
      by_cases e : r = i
      · subst e; rw [sU_s]; exact hv
      · rw [sU_n (Or.inr e)]; exact y3
  · refine ⟨h1, h2, h3, h4, h5, fun w hw => ?_, h7, fun j hj => ?_⟩
    · obtain ⟨y1, y2, y3, y4⟩ := h6 w hw
      refine ⟨y1, y2, y3, fun k hk => ?_⟩
      show sU σ 6 i v (10 + w) k < 26
      rw [sU_n (Or.inl (by omega))]
      exact y4 k hk
    · show sU σ 6 i v 6 j < σ 0 2
      by_cases e : j = i
      · subst e; rw [sU_s]; exact hv
      · rw [sU_n (Or.inr e)]; exact h8 j hj
