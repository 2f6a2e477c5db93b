theorem c_repeatFirst {l : Launch} {X : XT} {d : Nat} {h : Nat} {m : Mem} {o : Option (List Nat)} (hd : 1 ≤ d) (hy : RY m h o) (ho : WFo o) : Meth l X d M_X4_repeatFirst [vR 5 h] m (fun r m' => r = none ∧ RY m' h (o.bind (fun ys => lim (ys ++ ys.take 1))) ∧ ∀ a, a ≠ h → a ≠ h + 1 → m' a = m a) := by
  obtain ⟨d, rfl⟩ : ∃ e, d = e + 1 := ⟨d - 1, by omega⟩
  refine E_X4_repeatFirst (ls := [vR 5 h]) rfl rfl ?_
  repeat refine AW.s rfl ?_
  try dsimp only [List.set_cons_zero, List.set_cons_succ, Option.toList_some, Option.toList_none, List.cons_append, List.nil_append]
  refine AW.V k_4_50 (c_isTooLong) rfl rfl rfl rfl rfl rfl (fun r1 m1 hq => ?_)
  obtain ⟨rfl, rfl⟩ := hq
  try dsimp only [List.set_cons_zero, List.set_cons_succ, Option.toList_some, Option.toList_none, List.cons_append, List.nil_append]
  cases o with
  | none =>
    have hy : m1 h 1 = -1 := hy
    rw [if_pos hy]
    refine AW.b rfl (fun hc => ?_) (fun hc => ?_)
    · exact absurd hc (by decide)
    · exact AW.rv rfl rfl ⟨rfl, hy, fun _ _ _ => rfl⟩
  | some ys =>
    obtain ⟨g1, g2, g3⟩ := ho ys rfl
    have hy1 := hy.1
    rw [if_neg (by rw [hy1]; exact nI_m1 (by omega))]
    refine AW.b rfl (fun hc => ?_) (fun hc => ?_)
    · repeat refine AW.s rfl ?_
      try dsimp only [List.set_cons_zero, List.set_cons_succ, Option.toList_some, Option.toList_none, List.cons_append, List.nil_append]
      rw [hy1]
      refine AW.b rfl (fun hc => ?_) (fun hc => ?_)
      · have e40 : ys.length = 40 := (nI_eq (b := 40) (by omega) (by decide)).mp hc
        repeat refine AW.s rfl ?_
        try dsimp only [List.set_cons_zero, List.set_cons_succ, Option.toList_some, Option.toList_none, List.cons_append, List.nil_append]
        refine AW.rv rfl rfl ⟨rfl, ?_, fun a h1 _ => mUp_a h1⟩
        show RY _ h (lim (ys ++ ys.take 1))
        unfold lim
        rw [if_neg (by rw [List.length_append, List.length_take]; omega)]
        exact mUp_s _ _ _ _
      · have n40 : ys.length < 40 := by
          have : ¬ ys.length = 40 := fun q => hc (by rw [q]; rfl)
          omega
        repeat refine AW.s rfl ?_
        try dsimp only [List.set_cons_zero, List.set_cons_succ, Option.toList_some, Option.toList_none, List.cons_append, List.nil_append]
        rw [hy1]
        repeat refine AW.s rfl ?_
        try dsimp only [List.set_cons_zero, List.set_cons_succ, Option.toList_some, Option.toList_none, List.cons_append, List.nil_append]
        refine AW.c rfl (vp_in_nI (n := 0) (by decide) (by decide)) ?_
        try dsimp only [List.set_cons_zero, List.set_cons_succ, Option.toList_some, Option.toList_none, List.cons_append, List.nil_append]
        obtain ⟨y0, hy0⟩ : ∃ x, ys[0]? = some x := ⟨_, List.getElem?_eq_getElem (by omega)⟩
        rw [show (0 : Int32).toNatClampNeg = 0 from rfl, hy.2 0 y0 hy0]
        refine AW.c rfl (⟨vp_in_nI (by omega) (by decide), fun q => absurd q (by decide)⟩) ?_
        try dsimp only [List.set_cons_zero, List.set_cons_succ, Option.toList_some, Option.toList_none, List.cons_append, List.nil_append]
        rw [nI_clamp (by omega)]
        repeat refine AW.s rfl ?_
        try dsimp only [List.set_cons_zero, List.set_cons_succ, Option.toList_some, Option.toList_none, List.cons_append, List.nil_append]
        rw [mUp_a (show h ≠ h + 1 by omega), hy1]
        refine AW.rv rfl rfl ⟨rfl, ?_, fun a h1 h2 => by rw [mUp_a h1, mUp_a h2]⟩
        show RY _ h (lim (ys ++ ys.take 1))
        unfold lim
        rw [if_pos (by rw [List.length_append, List.length_take]; omega)]
        refine ⟨?_, fun k x hk => ?_⟩
        · rw [mUp_s, List.length_append, List.length_take, show min 1 ys.length = 1 by omega]
          exact nI_1 _
        · rw [mUp_a (show h + 1 ≠ h by omega)]
          by_cases e : k = ys.length
          · subst e
            rw [mUp_s]
            rw [List.getElem?_append_right (Nat.le_refl _), Nat.sub_self, List.getElem?_take, if_pos (by decide), hy0] at hk
            cases hk
            rfl
          · rw [mUp_n (Or.inr e)]
            have hk2 : k < ys.length := by
              have := (List.getElem?_eq_some_iff.mp hk).1
              rw [List.length_append, List.length_take] at this
              omega
            rw [List.getElem?_append_left hk2] at hk
            exact hy.2 k x hk
    · exact absurd rfl hc
theorem c_reverse {l : Launch} {X : XT} {d : Nat} {h : Nat} {m : Mem} {xs : List Nat} (hy : RY m h (some xs)) (hl : xs.length ≤ 40) (h1l : 1 ≤ xs.length) : Meth l X d M_X4_reverse [vR 5 h] m (fun r m' => r = none ∧ RY m' h (some xs.reverse) ∧ ∀ a, a ≠ h + 1 → m' a = m a) := by
  refine E_X4_reverse (ls := [vR 5 h, vU, vU, vU]) rfl rfl ?_
  repeat refine AW.u 9 rfl rfl ?_
  try dsimp only [List.set_cons_zero, List.set_cons_succ, Option.toList_some, Option.toList_none, List.cons_append, List.nil_append]
  rw [hy.1, show nI xs.length - 1 = nI (xs.length - 1) from pk_sub (b := 1) h1l]
  refine AW.wf (pc := 9) (σ := Nat) (fun i => xs.length - i) (fun i => [vR 5 h, vI (nI i), vI (nI (xs.length - 1 - i)), vU]) (fun i m1 => 2 * i ≤ xs.length ∧ (∀ a, a ≠ h + 1 → m1 a = m a) ∧ ∀ k x, xs[k]? = some x → m1 (h + 1) (if k < i ∨ xs.length ≤ k + i then xs.length - 1 - k else k) = nI x) (fun i m1 hm1 ih => ?_) 0 m ⟨by omega, fun _ _ => rfl, fun k x hk => ?_⟩
  · obtain ⟨hi, hf, hv⟩ := hm1
    have hle : i ≤ xs.length - 1 := by omega
    · repeat refine AW.s rfl ?_
      try dsimp only [List.set_cons_zero, List.set_cons_succ, Option.toList_some, Option.toList_none, List.cons_append, List.nil_append]
      refine AW.b rfl (fun hc => ?_) (fun hc => ?_)
      · have hlt : i < xs.length - 1 - i := (nI_ltI (by omega) (by omega)).mp hc
        obtain ⟨x, hx⟩ : ∃ x, xs[i]? = some x := ⟨_, List.getElem?_eq_getElem (by omega)⟩
        obtain ⟨y, hyy⟩ : ∃ y, xs[xs.length - 1 - i]? = some y := ⟨_, List.getElem?_eq_getElem (by omega)⟩
        have vx := hv i x hx
        have vy := hv _ y hyy
        rw [if_neg (by omega)] at vx
        rw [if_neg (by omega)] at vy
        repeat refine AW.s rfl ?_
        try dsimp only [List.set_cons_zero, List.set_cons_succ, Option.toList_some, Option.toList_none, List.cons_append, List.nil_append]
        refine AW.c rfl (vp_in_nI (by omega) (by decide)) ?_
        try dsimp only [List.set_cons_zero, List.set_cons_succ, Option.toList_some, Option.toList_none, List.cons_append, List.nil_append]
        rw [nI_clamp (by omega), vx]
        repeat refine AW.s rfl ?_
        try dsimp only [List.set_cons_zero, List.set_cons_succ, Option.toList_some, Option.toList_none, List.cons_append, List.nil_append]
        refine AW.c rfl (vp_in_nI (by omega) (by decide)) ?_
        try dsimp only [List.set_cons_zero, List.set_cons_succ, Option.toList_some, Option.toList_none, List.cons_append, List.nil_append]
        rw [nI_clamp (by omega), vy]
        refine AW.c rfl (⟨vp_in_nI (by omega) (by decide), fun q => absurd q (by decide)⟩) ?_
        try dsimp only [List.set_cons_zero, List.set_cons_succ, Option.toList_some, Option.toList_none, List.cons_append, List.nil_append]
        rw [nI_clamp (by omega)]
        repeat refine AW.s rfl ?_
        try dsimp only [List.set_cons_zero, List.set_cons_succ, Option.toList_some, Option.toList_none, List.cons_append, List.nil_append]
        refine AW.c rfl (⟨vp_in_nI (by omega) (by decide), fun q => absurd q (by decide)⟩) ?_
        try dsimp only [List.set_cons_zero, List.set_cons_succ, Option.toList_some, Option.toList_none, List.cons_append, List.nil_append]
        rw [nI_clamp (by omega)]
        repeat refine AW.u 9 rfl rfl ?_
        try dsimp only [List.set_cons_zero, List.set_cons_succ, Option.toList_some, Option.toList_none, List.cons_append, List.nil_append]
        refine AW.fg 3 ?_
        try dsimp only [List.set_cons_zero, List.set_cons_succ, Option.toList_some, Option.toList_none, List.cons_append, List.nil_append]
        refine AW.at (ih (i + 1) _ (by omega) ⟨by omega, fun a ha => by rw [mUp_a ha, mUp_a ha]; exact hf a ha, fun k z hk => ?_⟩) rfl ?_ rfl rfl
        · have hk2 : k < xs.length := (List.getElem?_eq_some_iff.mp hk).1
          by_cases e1 : k = i
          · subst e1
            rw [hx] at hk
            cases hk
            rw [if_pos (by omega), mUp_s]
          · by_cases e2 : k = xs.length - 1 - i
            · subst e2
              rw [hyy] at hk
              cases hk
              rw [if_pos (by omega), mUp_n (Or.inr (by omega)), show xs.length - 1 - (xs.length - 1 - i) = i by omega, mUp_s]
            · rw [mUp_n (Or.inr (by split <;> omega)), mUp_n (Or.inr (by split <;> omega)), ← hv k z hk]
              by_cases q : k < i ∨ xs.length ≤ k + i
              · rw [if_pos q, if_pos (by omega)]
              · rw [if_neg q, if_neg (by omega)]
        · rw [nI_1, show nI (xs.length - 1 - i) + (-1) = nI (xs.length - 1 - (i + 1)) by
            rw [show xs.length - 1 - i = (xs.length - 1 - (i + 1)) + 1 by omega]; exact pk_m1 _]
          rfl
      · have hge : xs.length - 1 - i ≤ i := by
          have : ¬ i < xs.length - 1 - i := fun q => hc ((nI_ltI (by omega) (by omega)).mpr q)
          omega
        refine AW.rv rfl rfl ⟨rfl, ⟨?_, fun k x hk => ?_⟩, hf⟩
        · rw [hf h (by omega), List.length_reverse]; exact hy.1
        · have hk2 : k < xs.length := by
            have := (List.getElem?_eq_some_iff.mp hk).1
            rwa [List.length_reverse] at this
          rw [List.getElem?_reverse hk2] at hk
          have := hv _ x hk
          rw [← this]
          congr 1
          split <;> omega
  · have := (List.getElem?_eq_some_iff.mp hk).1
    rw [if_neg (by omega)]; exact hy.2 k x hk
