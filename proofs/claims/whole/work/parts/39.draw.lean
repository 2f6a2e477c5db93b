theorem c_draw {l : Launch} {X : XT} {d : Nat} {h rc : Nat} {s : Int32} {m : Mem} (hd : 1 ≤ d) (hrc : rc ≤ 6) : Meth l X d M_X3_draw [vR 4 h, vI s, vI (nI rc)] m (fun r1 m' => r1 = none ∧ RepR m' h (drawL rc s) ∧ ∀ a, a ≠ h → a ≠ h + 1 → m' a = m a) := by
  obtain ⟨d, rfl⟩ : ∃ e, d = e + 1 := ⟨d - 1, by omega⟩
  refine E_X3_draw (ls := [vR 4 h, vI s, vI (nI rc), vU, vU, vU]) rfl rfl ?_
  repeat refine AW.s rfl ?_
  try dsimp only [List.set_cons_zero, List.set_cons_succ, Option.toList_some, Option.toList_none, List.cons_append, List.nil_append]
  refine AW.b rfl (fun hc => ?_) (fun hc => ?_)
  · have hpos : 0 < rc := by
      rcases Nat.eq_zero_or_pos rc with q | q
      · rw [q] at hc; exact absurd hc (by decide)
      · exact q
    have h4 := Nat.mod_lt (u9 (fol s)) (show 0 < 4 by decide)
    have hu := u9_lt (fol s)
    repeat refine AW.s rfl ?_
    try dsimp only [List.set_cons_zero, List.set_cons_succ, Option.toList_some, Option.toList_none, List.cons_append, List.nil_append]
    refine AW.S k_3_29 (c_following) rfl rfl rfl rfl (fun r1 m1 hq => ?_)
    obtain ⟨rfl, rfl⟩ := hq
    repeat refine AW.s rfl ?_
    try dsimp only [List.set_cons_zero, List.set_cons_succ, Option.toList_some, Option.toList_none, List.cons_append, List.nil_append]
    rw [ushr9]
    refine AW.c rfl (by decide) ?_
    try dsimp only [List.set_cons_zero, List.set_cons_succ, Option.toList_some, Option.toList_none, List.cons_append, List.nil_append]
    rw [show nI (u9 (fol s)) - nI (u9 (fol s)) / 4 * 4 = nI (u9 (fol s) % 4) from pk_rem (d := 4) (by omega) (by decide) (by decide)]
    iterate 2 refine AW.s rfl ?_
    try dsimp only [List.set_cons_zero, List.set_cons_succ, Option.toList_some, Option.toList_none, List.cons_append, List.nil_append]
    rw [nI_1]
    repeat refine AW.u 28 rfl rfl ?_
    try dsimp only [List.set_cons_zero, List.set_cons_succ, Option.toList_some, Option.toList_none, List.cons_append, List.nil_append]
    have hD : drawL rc s = drw rc (u9 (fol s) % 4 + 1) (fol s) := by unfold drawL; rw [if_neg (by omega)]
    rw [hD]
    generalize hk : u9 (fol s) % 4 + 1 = k at *
    generalize fol s = z0 at *
    refine AW.loop (pc := 28) (σ := Int32) k (fun i z => [vR 4 h, vI s, vI (nI rc), vI z, vI (nI k), vI (nI i)]) (fun i z m1 => (∀ a, a ≠ h → a ≠ h + 1 → m1 a = m a) ∧ RepR m1 h ((drw rc k z0).take i) ∧ drw rc (k - i) z = (drw rc k z0).drop i) (fun i z m1 hi hm1 ih => ?_) 0 z0 _ (Nat.zero_le _) ⟨fun a h1 _ => mUp_a h1, by rw [List.take_zero]; exact ⟨mUp_s _ _ _ _, fun k x hk => by simp at hk⟩, by rw [Nat.sub_zero, List.drop_zero]⟩
    obtain ⟨hf, hv, hz⟩ := hm1
    repeat refine AW.s rfl ?_
    try dsimp only [List.set_cons_zero, List.set_cons_succ, Option.toList_some, Option.toList_none, List.cons_append, List.nil_append]
    refine AW.b rfl (fun hc => ?_) (fun hc => ?_)
    · have hlt : i < k := (nI_ltI (by omega) (by omega)).mp hc
      repeat refine AW.s rfl ?_
      try dsimp only [List.set_cons_zero, List.set_cons_succ, Option.toList_some, Option.toList_none, List.cons_append, List.nil_append]
      refine AW.S k_3_29 (c_following) rfl rfl rfl rfl (fun r1 m1 hq => ?_)
      obtain ⟨rfl, rfl⟩ := hq
      have hu2 := u9_lt (fol z)
      obtain ⟨q, hq⟩ : ∃ q, k - i = q + 1 := ⟨k - i - 1, by omega⟩
      rw [hq] at hz
      have hz : (u9 (fol z) % rc) :: drw rc q (fol z) = (drw rc k z0).drop i := hz
      have hlen := drw_len rc k z0
      have hget : (drw rc k z0)[i]? = some (u9 (fol z) % rc) := by
        have : ((drw rc k z0).drop i)[0]? = some (u9 (fol z) % rc) := by rw [← hz]; rfl
        rwa [List.getElem?_drop, Nat.add_zero] at this
      repeat refine AW.s rfl ?_
      try dsimp only [List.set_cons_zero, List.set_cons_succ, Option.toList_some, Option.toList_none, List.cons_append, List.nil_append]
      rw [ushr9]
      refine AW.c rfl (nI_ne0 hpos (by omega)) ?_
      try dsimp only [List.set_cons_zero, List.set_cons_succ, Option.toList_some, Option.toList_none, List.cons_append, List.nil_append]
      rw [pk_rem (by omega) hpos (by omega)]
      refine AW.V k_3_25 ((c_push hv (by rw [List.length_take]; omega))) rfl rfl rfl rfl rfl rfl (fun r1 m1 hq => ?_)
      rename_i m2
      obtain ⟨rfl, p1, p2⟩ := hq
      repeat refine AW.u 28 rfl rfl ?_
      try dsimp only [List.set_cons_zero, List.set_cons_succ, Option.toList_some, Option.toList_none, List.cons_append, List.nil_append]
      rw [nI_1]
      refine ih _ _ hlt ⟨fun a h1 h2 => by rw [p2 a h1 h2]; exact hf a h1 h2, ?_, ?_⟩
      · rw [List.take_add_one, hget]; exact p1
      · rw [show k - (i + 1) = q by omega, ← List.drop_drop, ← hz]; rfl
    · have : i = k := by
        have : ¬ i < k := fun q => hc ((nI_ltI (by omega) (by omega)).mpr q)
        omega
      subst this
      rw [List.take_of_length_le (by rw [drw_len]; exact Nat.le_refl _)] at hv
      exact AW.rv rfl rfl ⟨rfl, hv, hf⟩
  · have h0 : rc = 0 := by
      rcases Nat.eq_zero_or_pos rc with q | q
      · exact q
      · exact absurd (nI_lt (a := 0) q (by omega)) hc
    subst h0
    have hD : drawL 0 s = [] := by unfold drawL; rw [if_pos rfl]
    rw [hD]
    exact AW.rv rfl rfl ⟨rfl, ⟨mUp_s _ _ _ _, fun k x hk => by simp at hk⟩, fun a h1 _ => mUp_a h1⟩
