theorem c_tells {l : Launch} {X : XT} {d : Nat} {T F p : Nat} {en : Nat → Nat} {m : Mem} (hd : 1 ≤ d) (ht : TOK m T en) (hp : p < 3) (hF : F ≠ T + 4) : Meth l X d M_X9_tells [vR 10 T, vI (nI p), vR 1006 F] m (fun r1 m' => r1 = some (vI (clI (tval m T en p (m F)))) ∧ ∀ a, a ≠ T + 4 → m' a = m a) := by
  obtain ⟨d, rfl⟩ : ∃ e, d = e + 1 := ⟨d - 1, by omega⟩
  obtain ⟨h1, h2, h3, h4⟩ := ht p hp
  have key : ∀ m0 : Mem, AW (GM l X (d + 1) M_X9_tells (fun r1 m' => r1 = some (vI (clI (tval m T en p (m F)))) ∧ ∀ a, a ≠ T + 4 → m' a = m a)) 20 [vR 10 T, vI (nI p), vR 1006 F, vI 0, vI (nI (sta en p))] [] m := by
    intro _
    refine AW.loop (pc := 20) (σ := Int32) (en p) (fun i v => [vR 10 T, vI (nI p), vR 1006 F, vI v, vI (nI i)]) (fun i v m1 => sta en p ≤ i ∧ (∀ a, a ≠ T + 4 → m1 a = m a) ∧ (∀ j, sta en p ≤ j → j < i → m1 (T + 4) j = cvF (m (T + 1)) (m (T + 2)) (m (T + 3)) (m F) (j + 1) j) ∧ (sta en p < i → v = cvF (m (T + 1)) (m (T + 2)) (m (T + 3)) (m F) i (i - 1))) (fun i v m1 hi hm1 ih => ?_) (sta en p) 0 m (by omega) ⟨Nat.le_refl _, fun _ _ => rfl, fun j a b => absurd a (by omega), fun q => absurd q (by omega)⟩
    obtain ⟨hsi, hf, hv, hlast⟩ := hm1
    repeat refine AW.s rfl ?_
    try dsimp only [List.set_cons_zero, List.set_cons_succ, Option.toList_some, Option.toList_none, List.cons_append, List.nil_append]
    refine AW.c rfl (vp_in_nI (by omega) (by decide)) ?_
    try dsimp only [List.set_cons_zero, List.set_cons_succ, Option.toList_some, Option.toList_none, List.cons_append, List.nil_append]
    rw [nI_clamp (by omega), show m1 (T + 5) p = nI (en p) by rw [hf _ (by omega)]; exact h1]
    refine AW.b rfl (fun hc => ?_) (fun hc => ?_)
    · have hlt : i < en p := (nI_ltI (by omega) (by omega)).mp hc
      obtain ⟨o, ho, hcel⟩ := h4 i hsi hlt
      repeat refine AW.s rfl ?_
      try dsimp only [List.set_cons_zero, List.set_cons_succ, Option.toList_some, Option.toList_none, List.cons_append, List.nil_append]
      refine AW.c rfl (vp_in_nI (by omega) (by decide)) ?_
      try dsimp only [List.set_cons_zero, List.set_cons_succ, Option.toList_some, Option.toList_none, List.cons_append, List.nil_append]
      rw [nI_clamp (by omega), hf (T + 1) (by omega), ho]
      repeat refine AW.s rfl ?_
      try dsimp only [List.set_cons_zero, List.set_cons_succ, Option.toList_some, Option.toList_none, List.cons_append, List.nil_append]
      refine AW.c rfl (vp_in_nI (by omega) (by decide)) ?_
      try dsimp only [List.set_cons_zero, List.set_cons_succ, Option.toList_some, Option.toList_none, List.cons_append, List.nil_append]
      rw [nI_clamp (by omega), hf (T + 2) (by omega)]
      repeat refine AW.s rfl ?_
      try dsimp only [List.set_cons_zero, List.set_cons_succ, Option.toList_some, Option.toList_none, List.cons_append, List.nil_append]
      refine AW.c rfl (vp_in_nI (by omega) (by decide)) ?_
      try dsimp only [List.set_cons_zero, List.set_cons_succ, Option.toList_some, Option.toList_none, List.cons_append, List.nil_append]
      rw [nI_clamp (by omega), hf (T + 3) (by omega)]
      repeat refine AW.s rfl ?_
      try dsimp only [List.set_cons_zero, List.set_cons_succ, Option.toList_some, Option.toList_none, List.cons_append, List.nil_append]
      refine AW.V k_9_31 ((c_worked hcel (by omega))) rfl rfl rfl rfl rfl rfl (fun r1 m1 hq => ?_)
      obtain ⟨rfl, rfl⟩ := hq
      have hval : wkN o (m (T + 2) i) (m (T + 3) i) (m1 (T + 4)) (m1 F) = cvF (m (T + 1)) (m (T + 2)) (m (T + 3)) (m F) (i + 1) i := by
        show _ = wkN (m (T + 1) i).toNatClampNeg _ _ _ _
        rw [ho, nI_clamp (by have := hcel.1; omega), hf F hF]
        exact wkN_congr hcel (by omega) (fun j a b => by rw [hv j a b]; exact cvF_st h4 h3 (fun _ _ => rfl) j a (by omega) _ _ (by omega) (by omega)) (fun _ _ => rfl)
      rw [hval]
      repeat refine AW.s rfl ?_
      try dsimp only [List.set_cons_zero, List.set_cons_succ, Option.toList_some, Option.toList_none, List.cons_append, List.nil_append]
      refine AW.c rfl (⟨vp_in_nI (by omega) (by decide), fun q => absurd q (by decide)⟩) ?_
      try dsimp only [List.set_cons_zero, List.set_cons_succ, Option.toList_some, Option.toList_none, List.cons_append, List.nil_append]
      rw [nI_clamp (by omega)]
      repeat refine AW.u 20 rfl rfl ?_
      try dsimp only [List.set_cons_zero, List.set_cons_succ, Option.toList_some, Option.toList_none, List.cons_append, List.nil_append]
      rw [nI_1]
      refine ih _ _ hlt ⟨by omega, fun a ha => by rw [mUp_a ha]; exact hf a ha, fun j a b => ?_, fun _ => rfl⟩
      by_cases e : j = i
      · subst e; exact mUp_s _ _ _ _
      · rw [mUp_n (Or.inr e)]; exact hv j a (by omega)
    · have : i = en p := by
        have : ¬ i < en p := fun q => hc ((nI_ltI (by omega) (by omega)).mpr q)
        omega
      subst this
      have hl := hlast h2
      repeat refine AW.s rfl ?_
      try dsimp only [List.set_cons_zero, List.set_cons_succ, Option.toList_some, Option.toList_none, List.cons_append, List.nil_append]
      refine AW.mmin (G := GM l X (d + 1) M_X9_tells _) rfl k_9_35 rR1 (by decide) ?_
      try dsimp only [List.set_cons_zero, List.set_cons_succ, Option.toList_some, Option.toList_none, List.cons_append, List.nil_append]
      refine AW.mmax (G := GM l X (d + 1) M_X9_tells _) rfl k_9_41 rR1 (by decide) ?_
      try dsimp only [List.set_cons_zero, List.set_cons_succ, Option.toList_some, Option.toList_none, List.cons_append, List.nil_append]
      subst hl
      exact AW.ri rfl rfl rfl ⟨rfl, hf⟩
  refine E_X9_tells (ls := [vR 10 T, vI (nI p), vR 1006 F, vU, vU]) rfl rfl ?_
  repeat refine AW.s rfl ?_
  try dsimp only [List.set_cons_zero, List.set_cons_succ, Option.toList_some, Option.toList_none, List.cons_append, List.nil_append]
  refine AW.b rfl (fun hc => ?_) (fun hc => ?_)
  · have e : p = 0 := (nI_eq (b := 0) (by omega) (by decide)).mp hc
    subst e
    repeat refine AW.u 20 rfl rfl ?_
    try dsimp only [List.set_cons_zero, List.set_cons_succ, Option.toList_some, Option.toList_none, List.cons_append, List.nil_append]
    exact key m
  · have e : ¬ p = 0 := fun q => hc (by rw [q]; rfl)
    obtain ⟨g1, g2, g3, g4⟩ := ht (p - 1) (by omega)
    repeat refine AW.s rfl ?_
    try dsimp only [List.set_cons_zero, List.set_cons_succ, Option.toList_some, Option.toList_none, List.cons_append, List.nil_append]
    rw [show nI p - 1 = nI (p - 1) from pk_sub (b := 1) (by omega)]
    refine AW.c rfl (vp_in_nI (by omega) (by decide)) ?_
    try dsimp only [List.set_cons_zero, List.set_cons_succ, Option.toList_some, Option.toList_none, List.cons_append, List.nil_append]
    rw [nI_clamp (by omega), g1]
    repeat refine AW.u 20 rfl rfl ?_
    try dsimp only [List.set_cons_zero, List.set_cons_succ, Option.toList_some, Option.toList_none, List.cons_append, List.nil_append]
    have hs : sta en p = en (p - 1) := by unfold sta; rw [if_neg e]
    rw [← hs]
    exact key m
