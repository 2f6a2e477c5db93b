theorem c_isTooLong {l : Launch} {X : XT} {d : Nat} {h : Nat} {m : Mem} : Meth l X d M_X4_isTooLong [vR 5 h] m (fun r m' => r = some (vI (if m h 1 = -1 then 1 else 0)) ∧ m' = m) := by
  refine E_X4_isTooLong (ls := [vR 5 h]) rfl rfl ?_
  repeat refine AW.s rfl ?_
  try dsimp only [List.set_cons_zero, List.set_cons_succ, Option.toList_some, Option.toList_none, List.cons_append, List.nil_append]
  refine AW.b rfl (fun hc => ?_) (fun hc => ?_)
  · repeat refine AW.s rfl ?_
    try dsimp only [List.set_cons_zero, List.set_cons_succ, Option.toList_some, Option.toList_none, List.cons_append, List.nil_append]
    exact AW.ri rfl rfl rfl ⟨by rw [if_pos hc], rfl⟩
  · repeat refine AW.s rfl ?_
    try dsimp only [List.set_cons_zero, List.set_cons_succ, Option.toList_some, Option.toList_none, List.cons_append, List.nil_append]
    exact AW.ri rfl rfl rfl ⟨by rw [if_neg hc], rfl⟩
theorem c_vowelCount {l : Launch} {X : XT} {d : Nat} {h V : Nat} {m : Mem} {xs : List Nat} (hy : RY m h (some xs)) (hg : GL xs) (hl : xs.length ≤ 40) (hV : V < 2 ^ 26) : Meth l X d M_X4_vowelCount [vR 5 h, vI (nI V)] m (fun r m' => r = some (vI (nI (vcnt V xs))) ∧ m' = m) := by
  refine E_X4_vowelCount (ls := [vR 5 h, vI (nI V), vU, vU]) rfl rfl ?_
  repeat refine AW.u 4 rfl rfl ?_
  try dsimp only [List.set_cons_zero, List.set_cons_succ, Option.toList_some, Option.toList_none, List.cons_append, List.nil_append]
  refine AW.loop (pc := 4) (σ := Unit) xs.length (fun i _ => [vR 5 h, vI (nI V), vI (nI (vcnt V (xs.take i))), vI (nI i)]) (fun _ _ m1 => m1 = m) (fun i _ m1 hi hm1 ih => ?_) 0 () m (Nat.zero_le _) rfl
  subst hm1
  repeat refine AW.s rfl ?_
  try dsimp only [List.set_cons_zero, List.set_cons_succ, Option.toList_some, Option.toList_none, List.cons_append, List.nil_append]
  rw [hy.1]
  refine AW.b rfl (fun hc => ?_) (fun hc => ?_)
  · have hlt : i < xs.length := (nI_ltI (by omega) (by omega)).mp hc
    obtain ⟨x, hx⟩ : ∃ x, xs[i]? = some x := ⟨_, List.getElem?_eq_getElem hlt⟩
    have hx26 : x < 26 := hg x (List.mem_of_getElem? hx)
    repeat refine AW.s rfl ?_
    try dsimp only [List.set_cons_zero, List.set_cons_succ, Option.toList_some, Option.toList_none, List.cons_append, List.nil_append]
    refine AW.c rfl (vp_in_nI (by omega) (by decide)) ?_
    try dsimp only [List.set_cons_zero, List.set_cons_succ, Option.toList_some, Option.toList_none, List.cons_append, List.nil_append]
    rw [nI_clamp (by omega), hy.2 i x hx]
    iterate 3 refine AW.s rfl ?_
    try dsimp only [List.set_cons_zero, List.set_cons_succ, Option.toList_some, Option.toList_none, List.cons_append, List.nil_append]
    rw [vow_u (by omega) (by omega)]
    refine AW.s rfl ?_
    try dsimp only [List.set_cons_zero, List.set_cons_succ, Option.toList_some, Option.toList_none, List.cons_append, List.nil_append]
    rw [nI_add, ← vcnt_take hx]
    iterate 3 refine AW.s rfl ?_
    try dsimp only [List.set_cons_zero, List.set_cons_succ, Option.toList_some, Option.toList_none, List.cons_append, List.nil_append]
    rw [nI_1]
    exact ih () m1 hlt rfl
  · have : i = xs.length := by
      have : ¬ i < xs.length := fun q => hc ((nI_ltI (by omega) (by omega)).mpr q)
      omega
    subst this
    repeat refine AW.s rfl ?_
    try dsimp only [List.set_cons_zero, List.set_cons_succ, Option.toList_some, Option.toList_none, List.cons_append, List.nil_append]
    rw [List.take_length]
    exact AW.ri rfl rfl rfl ⟨rfl, rfl⟩
theorem c_shift {l : Launch} {X : XT} {d : Nat} {h n : Nat} {m : Mem} {xs : List Nat} (hy : RY m h (some xs)) (hg : GL xs) (hl : xs.length ≤ 40) (hn : n < 26) : Meth l X d M_X4_shift [vR 5 h, vI (nI n)] m (fun r m' => r = none ∧ RY m' h (some (shf n xs)) ∧ ∀ a, a ≠ h + 1 → m' a = m a) := by
  refine E_X4_shift (ls := [vR 5 h, vI (nI n), vU]) rfl rfl ?_
  repeat refine AW.u 2 rfl rfl ?_
  try dsimp only [List.set_cons_zero, List.set_cons_succ, Option.toList_some, Option.toList_none, List.cons_append, List.nil_append]
  refine AW.loop (pc := 2) (σ := Unit) xs.length (fun i _ => [vR 5 h, vI (nI n), vI (nI i)]) (fun i _ m1 => (∀ a, a ≠ h + 1 → m1 a = m a) ∧ ∀ k x, xs[k]? = some x → m1 (h + 1) k = nI (if k < i then (x + n) % 26 else x)) (fun i _ m1 hi hm1 ih => ?_) 0 () m (Nat.zero_le _) ⟨fun _ _ => rfl, fun k x hk => by rw [if_neg (by omega)]; exact hy.2 k x hk⟩
  obtain ⟨hf, hv⟩ := hm1
  have hsz : m1 h 1 = nI xs.length := by rw [hf h (by omega)]; exact hy.1
  repeat refine AW.s rfl ?_
  try dsimp only [List.set_cons_zero, List.set_cons_succ, Option.toList_some, Option.toList_none, List.cons_append, List.nil_append]
  rw [hsz]
  refine AW.b rfl (fun hc => ?_) (fun hc => ?_)
  · have hlt : i < xs.length := (nI_ltI (by omega) (by omega)).mp hc
    obtain ⟨x, hx⟩ : ∃ x, xs[i]? = some x := ⟨_, List.getElem?_eq_getElem hlt⟩
    have hx26 : x < 26 := hg x (List.mem_of_getElem? hx)
    have hval := hv i x hx
    rw [if_neg (by omega)] at hval
    repeat refine AW.s rfl ?_
    try dsimp only [List.set_cons_zero, List.set_cons_succ, Option.toList_some, Option.toList_none, List.cons_append, List.nil_append]
    refine AW.c rfl (vp_in_nI (by omega) (by decide)) ?_
    try dsimp only [List.set_cons_zero, List.set_cons_succ, Option.toList_some, Option.toList_none, List.cons_append, List.nil_append]
    rw [nI_clamp (by omega), hval]
    iterate 3 refine AW.s rfl ?_
    try dsimp only [List.set_cons_zero, List.set_cons_succ, Option.toList_some, Option.toList_none, List.cons_append, List.nil_append]
    refine AW.c rfl (by decide) ?_
    try dsimp only [List.set_cons_zero, List.set_cons_succ, Option.toList_some, Option.toList_none, List.cons_append, List.nil_append]
    rw [rem26 (by omega) (by omega)]
    refine AW.c rfl (⟨vp_in_nI (by omega) (by decide), fun q => absurd q (by decide)⟩) ?_
    try dsimp only [List.set_cons_zero, List.set_cons_succ, Option.toList_some, Option.toList_none, List.cons_append, List.nil_append]
    rw [nI_clamp (by omega)]
    iterate 2 refine AW.s rfl ?_
    try dsimp only [List.set_cons_zero, List.set_cons_succ, Option.toList_some, Option.toList_none, List.cons_append, List.nil_append]
    rw [nI_1]
    refine ih () _ hlt ⟨fun a ha => ?_, fun k y hk => ?_⟩
    · rw [mUp_a ha]; exact hf a ha
    · by_cases e : k = i
      · subst e
        rw [hx] at hk
        cases hk
        rw [mUp_s, if_pos (by omega)]
      · rw [mUp_n (Or.inr e), hv k y hk]
        by_cases q : k < i
        · rw [if_pos q, if_pos (show k < i + 1 by omega)]
        · rw [if_neg q, if_neg (show ¬ k < i + 1 by omega)]
  · have : i = xs.length := by
      have : ¬ i < xs.length := fun q => hc ((nI_ltI (by omega) (by omega)).mpr q)
      omega
    subst this
    refine AW.rv rfl rfl ⟨rfl, ⟨?_, fun k y hk => ?_⟩, hf⟩
    · rw [hsz]; simp [shf]
    · simp only [shf, List.getElem?_map, Option.map_eq_some_iff] at hk
      obtain ⟨x, hx, rfl⟩ := hk
      rw [hv k x hx, if_pos (List.getElem?_eq_some_iff.mp hx).1]
theorem c_shiftVowels {l : Launch} {X : XT} {d : Nat} {h n V : Nat} {m : Mem} {xs : List Nat} (hy : RY m h (some xs)) (hg : GL xs) (hl : xs.length ≤ 40) (hn : n < 26) (hV : V < 2 ^ 26) : Meth l X d M_X4_shiftVowels [vR 5 h, vI (nI n), vI (nI V)] m (fun r m' => r = none ∧ RY m' h (some (shV V n xs)) ∧ ∀ a, a ≠ h + 1 → m' a = m a) := by
  refine E_X4_shiftVowels (ls := [vR 5 h, vI (nI n), vI (nI V), vU]) rfl rfl ?_
  repeat refine AW.u 2 rfl rfl ?_
  try dsimp only [List.set_cons_zero, List.set_cons_succ, Option.toList_some, Option.toList_none, List.cons_append, List.nil_append]
  refine AW.loop (pc := 2) (σ := Unit) xs.length (fun i _ => [vR 5 h, vI (nI n), vI (nI V), vI (nI i)]) (fun i _ m1 => (∀ a, a ≠ h + 1 → m1 a = m a) ∧ ∀ k x, xs[k]? = some x → m1 (h + 1) k = nI (if k < i then (if V.testBit x then (x + n) % 26 else x) else x)) (fun i _ m1 hi hm1 ih => ?_) 0 () m (Nat.zero_le _) ⟨fun _ _ => rfl, fun k x hk => by rw [if_neg (by omega)]; exact hy.2 k x hk⟩
  obtain ⟨hf, hv⟩ := hm1
  have hsz : m1 h 1 = nI xs.length := by rw [hf h (by omega)]; exact hy.1
  repeat refine AW.s rfl ?_
  try dsimp only [List.set_cons_zero, List.set_cons_succ, Option.toList_some, Option.toList_none, List.cons_append, List.nil_append]
  rw [hsz]
  refine AW.b rfl (fun hc => ?_) (fun hc => ?_)
  · have hlt : i < xs.length := (nI_ltI (by omega) (by omega)).mp hc
    obtain ⟨x, hx⟩ : ∃ x, xs[i]? = some x := ⟨_, List.getElem?_eq_getElem hlt⟩
    have hx26 : x < 26 := hg x (List.mem_of_getElem? hx)
    have hval := hv i x hx
    rw [if_neg (by omega)] at hval
    repeat refine AW.s rfl ?_
    try dsimp only [List.set_cons_zero, List.set_cons_succ, Option.toList_some, Option.toList_none, List.cons_append, List.nil_append]
    refine AW.c rfl (vp_in_nI (by omega) (by decide)) ?_
    try dsimp only [List.set_cons_zero, List.set_cons_succ, Option.toList_some, Option.toList_none, List.cons_append, List.nil_append]
    rw [nI_clamp (by omega), hval]
    iterate 3 refine AW.s rfl ?_
    try dsimp only [List.set_cons_zero, List.set_cons_succ, Option.toList_some, Option.toList_none, List.cons_append, List.nil_append]
    rw [vow_u (by omega) (by omega)]
    refine AW.b rfl (fun hc => ?_) (fun hc => ?_)
    · have hvx : V.testBit x = false := by
        by_cases q : V.testBit x = true
        · rw [q] at hc; exact absurd hc (by decide)
        · simpa using q
      iterate 2 refine AW.s rfl ?_
      try dsimp only [List.set_cons_zero, List.set_cons_succ, Option.toList_some, Option.toList_none, List.cons_append, List.nil_append]
      rw [nI_1]
      refine ih () m1 hlt ⟨hf, fun k y hk => ?_⟩
      rw [hv k y hk]
      by_cases e : k = i
      · subst e
        rw [hx] at hk
        cases hk
        simp [hvx]
      · by_cases q : k < i
        · rw [if_pos q, if_pos (show k < i + 1 by omega)]
        · rw [if_neg q, if_neg (show ¬ k < i + 1 by omega)]
    · have hvx : V.testBit x = true := by
        by_cases q : V.testBit x = true
        · exact q
        · rw [if_neg q] at hc; exact absurd rfl hc
      repeat refine AW.s rfl ?_
      try dsimp only [List.set_cons_zero, List.set_cons_succ, Option.toList_some, Option.toList_none, List.cons_append, List.nil_append]
      refine AW.c rfl (vp_in_nI (by omega) (by decide)) ?_
      try dsimp only [List.set_cons_zero, List.set_cons_succ, Option.toList_some, Option.toList_none, List.cons_append, List.nil_append]
      rw [nI_clamp (by omega), hval]
      iterate 3 refine AW.s rfl ?_
      try dsimp only [List.set_cons_zero, List.set_cons_succ, Option.toList_some, Option.toList_none, List.cons_append, List.nil_append]
      refine AW.c rfl (by decide) ?_
      try dsimp only [List.set_cons_zero, List.set_cons_succ, Option.toList_some, Option.toList_none, List.cons_append, List.nil_append]
      rw [rem26 (by omega) (by omega)]
      refine AW.c rfl (⟨vp_in_nI (by omega) (by decide), fun q => absurd q (by decide)⟩) ?_
      try dsimp only [List.set_cons_zero, List.set_cons_succ, Option.toList_some, Option.toList_none, List.cons_append, List.nil_append]
      rw [nI_clamp (by omega)]
      iterate 2 refine AW.s rfl ?_
      try dsimp only [List.set_cons_zero, List.set_cons_succ, Option.toList_some, Option.toList_none, List.cons_append, List.nil_append]
      rw [nI_1]
      refine ih () _ hlt ⟨fun a ha => ?_, fun k y hk => ?_⟩
      · rw [mUp_a ha]; exact hf a ha
      · by_cases e : k = i
        · subst e
          rw [hx] at hk
          cases hk
          rw [mUp_s, if_pos (by omega), if_pos hvx]
        · rw [mUp_n (Or.inr e), hv k y hk]
          by_cases q : k < i
          · rw [if_pos q, if_pos (show k < i + 1 by omega)]
          · rw [if_neg q, if_neg (show ¬ k < i + 1 by omega)]
  · have : i = xs.length := by
      have : ¬ i < xs.length := fun q => hc ((nI_ltI (by omega) (by omega)).mpr q)
      omega
    subst this
    refine AW.rv rfl rfl ⟨rfl, ⟨?_, fun k y hk => ?_⟩, hf⟩
    · rw [hsz]; simp [shV]
    · simp only [shV, List.getElem?_map, Option.map_eq_some_iff] at hk
      obtain ⟨x, hx, rfl⟩ := hk
      rw [hv k x hx, if_pos (List.getElem?_eq_some_iff.mp hx).1]
