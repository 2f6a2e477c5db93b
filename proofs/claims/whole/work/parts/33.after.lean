def frI (i : Nat) : Int32 := if i = 0 then -1 else nI (i - 1)
theorem frI_dec (j : Nat) : nI j + (-1) = frI j := by
  cases j with
  | zero => rfl
  | succ j => rw [pk_m1]; rfl
theorem insA_take_len {V l i : Nat} {xs : List Nat} (h : i ≤ xs.length) : (insA V l (xs.take i)).length = i + vcnt V (xs.take i) := by
  rw [insA_len, List.length_take]
  omega
theorem insA_drop {V l j x : Nat} {xs : List Nat} (h : xs[j]? = some x) : insA V l (xs.drop j) = (if V.testBit x then [x, l] else [x]) ++ insA V l (xs.drop (j + 1)) := by
  have hlt : j < xs.length := (List.getElem?_eq_some_iff.mp h).1
  have hx : xs[j] = x := (List.getElem?_eq_some_iff.mp h).2
  rw [List.drop_eq_getElem_cons hlt, hx]
  rfl
theorem c_putAfter {l : Launch} {X : XT} {d : Nat} {h V lt : Nat} {m : Mem} {xs : List Nat} (hd : 1 ≤ d) (hy : RY m h (some xs)) (ho : WFo (some xs)) (hV : V < 2 ^ 26) (hlt26 : lt < 26) : Meth l X d M_X4_putAfterVowels [vR 5 h, vI (nI lt), vI (nI V)] m (fun r m' => r = none ∧ RY m' h (lim (insA V lt xs)) ∧ ∀ a, a ≠ h → a ≠ h + 1 → m' a = m a) := by
  obtain ⟨d, rfl⟩ : ∃ e, d = e + 1 := ⟨d - 1, by omega⟩
  obtain ⟨hg, h1l, hl⟩ := ho xs rfl
  refine E_X4_putAfterVowels (ls := [vR 5 h, vI (nI lt), vI (nI V), vU, vU, vU]) rfl rfl ?_
  repeat refine AW.s rfl ?_
  try dsimp only [List.set_cons_zero, List.set_cons_succ, Option.toList_some, Option.toList_none, List.cons_append, List.nil_append]
  refine AW.V k_4_83 ((c_vowelCount hy hg hl hV)) rfl rfl rfl rfl rfl rfl (fun r1 m1 hq => ?_)
  obtain ⟨rfl, rfl⟩ := hq
  try dsimp only [List.set_cons_zero, List.set_cons_succ, Option.toList_some, Option.toList_none, List.cons_append, List.nil_append]
  rw [hy.1]
  have hvl := vcnt_le (V := V) xs
  refine AW.s rfl ?_
  try dsimp only [List.set_cons_zero, List.set_cons_succ, Option.toList_some, Option.toList_none, List.cons_append, List.nil_append]
  rw [nI_add]
  repeat refine AW.s rfl ?_
  try dsimp only [List.set_cons_zero, List.set_cons_succ, Option.toList_some, Option.toList_none, List.cons_append, List.nil_append]
  refine AW.b rfl (fun hc => ?_) (fun hc => ?_)
  · have hgt : 40 < xs.length + vcnt V xs := (nI_ltI (a := 40) (by decide) (by omega)).mp hc
    repeat refine AW.s rfl ?_
    try dsimp only [List.set_cons_zero, List.set_cons_succ, Option.toList_some, Option.toList_none, List.cons_append, List.nil_append]
    refine AW.rv rfl rfl ⟨rfl, ?_, fun a h1 _ => mUp_a h1⟩
    unfold lim
    rw [if_neg (by rw [insA_len]; omega)]
    exact mUp_s _ _ _ _
  · have hle : xs.length + vcnt V xs ≤ 40 := by
      have : ¬ 40 < xs.length + vcnt V xs := fun q => hc ((nI_ltI (a := 40) (by decide) (by omega)).mpr q)
      omega
    iterate 4 refine AW.s rfl ?_
    try dsimp only [List.set_cons_zero, List.set_cons_succ, Option.toList_some, Option.toList_none, List.cons_append, List.nil_append]
    rw [hy.1, show nI xs.length - 1 = frI xs.length from by
      unfold frI; rw [if_neg (by omega)]; exact pk_sub (b := 1) h1l]
    repeat refine AW.u 36 rfl rfl ?_
    try dsimp only [List.set_cons_zero, List.set_cons_succ, Option.toList_some, Option.toList_none, List.cons_append, List.nil_append]
    refine AW.at (pc2 := 36) (AW.wf (pc := 36) (σ := Nat) (fun i => i) (fun i => [vR 5 h, vI (nI lt), vI (nI V), vI (nI (i + vcnt V (xs.take i))), vI (frI i), vU]) (fun i m2 => i ≤ xs.length ∧ m2 h 1 = nI (xs.length + vcnt V xs) ∧ (∀ a, a ≠ h → a ≠ h + 1 → m2 a = m1 a) ∧ (∀ k x, k < i → xs[k]? = some x → m2 (h + 1) k = nI x) ∧ ∀ k y, (insA V lt (xs.drop i))[k]? = some y → m2 (h + 1) (i + vcnt V (xs.take i) + k) = nI y) (fun i m2 hm2 ih => ?_) xs.length (mUp m1 h 1 (nI (xs.length + vcnt V xs))) ⟨Nat.le_refl _, mUp_s _ _ _ _, fun a h1 _ => mUp_a h1, fun k x _ hk => by rw [mUp_a (by omega)]; exact hy.2 k x hk, fun k y hk => by simp [insA] at hk⟩) rfl (by rw [List.take_length]; rfl) rfl rfl
    obtain ⟨hi, hsz, hf, hv, hw⟩ := hm2
    repeat refine AW.s rfl ?_
    try dsimp only [List.set_cons_zero, List.set_cons_succ, Option.toList_some, Option.toList_none, List.cons_append, List.nil_append]
    cases i with
    | zero =>
      refine AW.b rfl (fun hc => ?_) (fun hc => ?_)
      · refine AW.rv rfl rfl ⟨rfl, ?_, hf⟩
        unfold lim
        rw [if_pos (by rw [insA_len]; omega)]
        refine ⟨by rw [insA_len]; exact hsz, fun k y hk => ?_⟩
        have := hw k y hk
        rw [show 0 + vcnt V (xs.take 0) + k = k by simp [vcnt]] at this
        exact this
      · exact absurd (by decide) hc
    | succ j =>
      have hfr : frI (j + 1) = nI j := rfl
      rw [hfr]
      refine AW.b rfl (fun hc => ?_) (fun hc => ?_)
      · exact absurd hc (nI_pos (by omega))
      · obtain ⟨x, hx⟩ : ∃ x, xs[j]? = some x := ⟨_, List.getElem?_eq_getElem (by omega)⟩
        have hx26 : x < 26 := hg x (List.mem_of_getElem? hx)
        have vx := hv j x (by omega) hx
        have vt := vcnt_take (V := V) hx
        have vle : vcnt V (xs.take (j + 1)) ≤ vcnt V xs := by
          have h9 : vcnt V xs = vcnt V (xs.take (j + 1)) + vcnt V (xs.drop (j + 1)) := by
            unfold vcnt
            rw [← List.countP_append, List.take_append_drop]
          omega
        have hins := insA_drop (V := V) (l := lt) hx
        repeat refine AW.s rfl ?_
        try dsimp only [List.set_cons_zero, List.set_cons_succ, Option.toList_some, Option.toList_none, List.cons_append, List.nil_append]
        refine AW.c rfl (vp_in_nI (by omega) (by decide)) ?_
        try dsimp only [List.set_cons_zero, List.set_cons_succ, Option.toList_some, Option.toList_none, List.cons_append, List.nil_append]
        rw [nI_clamp (by omega), vx]
        repeat refine AW.s rfl ?_
        try dsimp only [List.set_cons_zero, List.set_cons_succ, Option.toList_some, Option.toList_none, List.cons_append, List.nil_append]
        rw [vow_u (by omega) (by omega)]
        refine AW.b rfl (fun hc => ?_) (fun hc => ?_)
        · have hvx : V.testBit x = false := by
            by_cases q : V.testBit x = true
            · rw [q] at hc; exact absurd hc (by decide)
            · simpa using q
          rw [hvx] at vt hins
          simp only [Bool.false_eq_true, if_false, Nat.add_zero] at vt hins
          rw [show j + 1 + vcnt V (xs.take (j + 1)) = (j + vcnt V (xs.take j)) + 1 by omega]
          refine AW.s rfl ?_
          try dsimp only [List.set_cons_zero, List.set_cons_succ, Option.toList_some, Option.toList_none, List.cons_append, List.nil_append]
          rw [pk_m1]
          repeat refine AW.s rfl ?_
          try dsimp only [List.set_cons_zero, List.set_cons_succ, Option.toList_some, Option.toList_none, List.cons_append, List.nil_append]
          refine AW.c rfl (⟨vp_in_nI (by omega) (by decide), fun q => absurd q (by decide)⟩) ?_
          try dsimp only [List.set_cons_zero, List.set_cons_succ, Option.toList_some, Option.toList_none, List.cons_append, List.nil_append]
          rw [nI_clamp (by omega)]
          refine AW.s rfl ?_
          try dsimp only [List.set_cons_zero, List.set_cons_succ, Option.toList_some, Option.toList_none, List.cons_append, List.nil_append]
          rw [frI_dec]
          refine AW.s rfl ?_
          try dsimp only [List.set_cons_zero, List.set_cons_succ, Option.toList_some, Option.toList_none, List.cons_append, List.nil_append]
          refine AW.fg 5 ?_
          try dsimp only [List.set_cons_zero, List.set_cons_succ, Option.toList_some, Option.toList_none, List.cons_append, List.nil_append]
          refine ih j _ (by omega) ⟨by omega, by rw [mUp_a (by omega)]; exact hsz, fun a h1 h2 => by rw [mUp_a h2]; exact hf a h1 h2, fun k y hk hky => ?_, fun k y hk => ?_⟩
          · rw [mUp_n (Or.inr (by omega))]; exact hv k y (by omega) hky
          · rw [hins] at hk
            cases k with
            | zero => cases hk; exact mUp_s _ _ _ _
            | succ k =>
              rw [mUp_n (Or.inr (by omega))]
              have := hw k y hk
              rw [show j + vcnt V (xs.take j) + (k + 1) = j + 1 + vcnt V (xs.take (j + 1)) + k by omega]
              exact this
        · have hvx : V.testBit x = true := by
            by_cases q : V.testBit x = true
            · exact q
            · rw [if_neg q] at hc; exact absurd rfl hc
          rw [hvx] at vt hins
          simp only [if_true] at vt hins
          rw [show j + 1 + vcnt V (xs.take (j + 1)) = (j + vcnt V (xs.take j) + 1) + 1 by omega]
          refine AW.s rfl ?_
          try dsimp only [List.set_cons_zero, List.set_cons_succ, Option.toList_some, Option.toList_none, List.cons_append, List.nil_append]
          rw [pk_m1]
          repeat refine AW.s rfl ?_
          try dsimp only [List.set_cons_zero, List.set_cons_succ, Option.toList_some, Option.toList_none, List.cons_append, List.nil_append]
          refine AW.c rfl (⟨vp_in_nI (by omega) (by decide), fun q => absurd q (by decide)⟩) ?_
          try dsimp only [List.set_cons_zero, List.set_cons_succ, Option.toList_some, Option.toList_none, List.cons_append, List.nil_append]
          rw [nI_clamp (by omega)]
          refine AW.s rfl ?_
          try dsimp only [List.set_cons_zero, List.set_cons_succ, Option.toList_some, Option.toList_none, List.cons_append, List.nil_append]
          rw [pk_m1]
          repeat refine AW.s rfl ?_
          try dsimp only [List.set_cons_zero, List.set_cons_succ, Option.toList_some, Option.toList_none, List.cons_append, List.nil_append]
          refine AW.c rfl (⟨vp_in_nI (by omega) (by decide), fun q => absurd q (by decide)⟩) ?_
          try dsimp only [List.set_cons_zero, List.set_cons_succ, Option.toList_some, Option.toList_none, List.cons_append, List.nil_append]
          rw [nI_clamp (by omega)]
          refine AW.s rfl ?_
          try dsimp only [List.set_cons_zero, List.set_cons_succ, Option.toList_some, Option.toList_none, List.cons_append, List.nil_append]
          rw [frI_dec]
          refine AW.s rfl ?_
          try dsimp only [List.set_cons_zero, List.set_cons_succ, Option.toList_some, Option.toList_none, List.cons_append, List.nil_append]
          refine AW.fg 5 ?_
          try dsimp only [List.set_cons_zero, List.set_cons_succ, Option.toList_some, Option.toList_none, List.cons_append, List.nil_append]
          refine ih j _ (by omega) ⟨by omega, by rw [mUp_a (by omega), mUp_a (by omega)]; exact hsz, fun a h1 h2 => by rw [mUp_a h2, mUp_a h2]; exact hf a h1 h2, fun k y hk hky => ?_, fun k y hk => ?_⟩
          · rw [mUp_n (Or.inr (by omega)), mUp_n (Or.inr (by omega))]; exact hv k y (by omega) hky
          · rw [hins] at hk
            match k, hk with
            | 0, hk => cases hk; exact mUp_s _ _ _ _
            | 1, hk => cases hk; rw [mUp_n (Or.inr (by omega)), mUp_s]
            | k + 2, hk =>
              rw [mUp_n (Or.inr (by omega)), mUp_n (Or.inr (by omega))]
              have := hw k y hk
              rw [show j + vcnt V (xs.take j) + (k + 2) = j + 1 + vcnt V (xs.take (j + 1)) + k by omega]
              exact this
