theorem c_MisAlike {l : Launch} {X : XT} {d : Nat} {v w : Nat} {m : Mem} {o1 o2 : Option (List Nat)} (hv : v < 8) (hw : w < 8) (h1 : RMs m v o1) (w1 : WFo o1) (h2 : RMs m w o2) (w2 : WFo o2) : Meth l X d M_X11_isAlike [vR 12 243, vI (nI v), vI (nI w)] m (fun r m' => r = some (vI (if likeO o1 o2 then 1 else 0)) ∧ m' = m) := by
  refine E_X11_isAlike (ls := [vR 12 243, vI (nI v), vI (nI w), vU, vU]) rfl rfl ?_
  have hex : ∀ k : Nat, k < 2 ^ 31 → likeO o1 o2 = false → AW (GM l X d M_X11_isAlike (fun r m' => r = some (vI (if likeO o1 o2 then 1 else 0)) ∧ m' = m)) 33 [vR 12 243, vI (nI v), vI (nI w), vI 0, vI (nI k)] [] m := by
    intro k hk hno
    repeat refine AW.s rfl ?_
    try dsimp only [List.set_cons_zero, List.set_cons_succ, Option.toList_some, Option.toList_none, List.cons_append, List.nil_append]
    refine AW.c rfl (vp_in_nI (by omega) (by decide)) ?_
    try dsimp only [List.set_cons_zero, List.set_cons_succ, Option.toList_some, Option.toList_none, List.cons_append, List.nil_append]
    rw [nI_clamp (by omega)]
    refine AW.b rfl (fun hc => ?_) (fun hc => ?_)
    · repeat refine AW.s rfl ?_
      try dsimp only [List.set_cons_zero, List.set_cons_succ, Option.toList_some, Option.toList_none, List.cons_append, List.nil_append]
      refine AW.b rfl (fun hc => ?_) (fun hc => ?_)
      · repeat refine AW.s rfl ?_
        try dsimp only [List.set_cons_zero, List.set_cons_succ, Option.toList_some, Option.toList_none, List.cons_append, List.nil_append]
        exact AW.ri rfl rfl rfl ⟨by rw [hno]; rfl, rfl⟩
      · exact absurd rfl hc
    · repeat refine AW.s rfl ?_
      try dsimp only [List.set_cons_zero, List.set_cons_succ, Option.toList_some, Option.toList_none, List.cons_append, List.nil_append]
      exact AW.ri rfl rfl rfl ⟨by rw [hno]; rfl, rfl⟩
  repeat refine AW.s rfl ?_
  try dsimp only [List.set_cons_zero, List.set_cons_succ, Option.toList_some, Option.toList_none, List.cons_append, List.nil_append]
  refine AW.c rfl (vp_in_nI (by omega) (by decide)) ?_
  try dsimp only [List.set_cons_zero, List.set_cons_succ, Option.toList_some, Option.toList_none, List.cons_append, List.nil_append]
  rw [nI_clamp (by omega)]
  repeat refine AW.s rfl ?_
  try dsimp only [List.set_cons_zero, List.set_cons_succ, Option.toList_some, Option.toList_none, List.cons_append, List.nil_append]
  refine AW.c rfl (vp_in_nI (by omega) (by decide)) ?_
  try dsimp only [List.set_cons_zero, List.set_cons_succ, Option.toList_some, Option.toList_none, List.cons_append, List.nil_append]
  rw [nI_clamp (by omega)]
  cases o1 with
  | none =>
    have h1 : m 261 v = -3 := h1
    have hno : likeO none o2 = false := rfl
    rw [show m (243 + 18) v = -3 from h1]
    refine AW.b rfl (fun hc => ?_) (fun hc => ?_)
    · repeat refine AW.s rfl ?_
      try dsimp only [List.set_cons_zero, List.set_cons_succ, Option.toList_some, Option.toList_none, List.cons_append, List.nil_append]
      refine AW.c rfl (vp_in_nI (by omega) (by decide)) ?_
      try dsimp only [List.set_cons_zero, List.set_cons_succ, Option.toList_some, Option.toList_none, List.cons_append, List.nil_append]
      rw [nI_clamp (by omega), show m (243 + 18) v = -3 from h1]
      refine AW.b rfl (fun hc => ?_) (fun hc => ?_)
      · exact absurd hc (by decide)
      · repeat refine AW.u 33 rfl rfl ?_
        try dsimp only [List.set_cons_zero, List.set_cons_succ, Option.toList_some, Option.toList_none, List.cons_append, List.nil_append]
        exact hex 0 (by decide) hno
    · repeat refine AW.u 33 rfl rfl ?_
      try dsimp only [List.set_cons_zero, List.set_cons_succ, Option.toList_some, Option.toList_none, List.cons_append, List.nil_append]
      exact hex 0 (by decide) hno
  | some xs =>
    obtain ⟨a1, a2, a3⟩ := w1 xs rfl
    have h1l : m (243 + 18) v = nI xs.length := h1.1
    rw [h1l]
    cases o2 with
    | none =>
      have h2 : m 261 w = -3 := h2
      rw [show m (243 + 18) w = -3 from h2]
      refine AW.b rfl (fun hc => ?_) (fun hc => ?_)
      · have h9 := congrArg Int32.toInt hc
        rw [nI_toInt (by omega)] at h9
        have : (-3 : Int32).toInt = -3 := rfl
        omega
      · repeat refine AW.u 33 rfl rfl ?_
        try dsimp only [List.set_cons_zero, List.set_cons_succ, Option.toList_some, Option.toList_none, List.cons_append, List.nil_append]
        exact hex 0 (by decide) rfl
    | some ys =>
      obtain ⟨b1, b2, b3⟩ := w2 ys rfl
      have h2l : m (243 + 18) w = nI ys.length := h2.1
      rw [h2l]
      refine AW.b rfl (fun hc => ?_) (fun hc => ?_)
      · have hlen : xs.length = ys.length := (nI_eq (by omega) (by omega)).mp hc
        repeat refine AW.s rfl ?_
        try dsimp only [List.set_cons_zero, List.set_cons_succ, Option.toList_some, Option.toList_none, List.cons_append, List.nil_append]
        refine AW.c rfl (vp_in_nI (by omega) (by decide)) ?_
        try dsimp only [List.set_cons_zero, List.set_cons_succ, Option.toList_some, Option.toList_none, List.cons_append, List.nil_append]
        rw [nI_clamp (by omega), h1l]
        refine AW.b rfl (fun hc => ?_) (fun hc => ?_)
        · repeat refine AW.u 33 rfl rfl ?_
          try dsimp only [List.set_cons_zero, List.set_cons_succ, Option.toList_some, Option.toList_none, List.cons_append, List.nil_append]
          refine AW.loop (pc := 33) (σ := Unit) xs.length (fun i _ => [vR 12 243, vI (nI v), vI (nI w), vI 1, vI (nI i)]) (fun i _ m1 => m1 = m ∧ xs.take i = ys.take i) (fun i _ m1 hi hm1 ih => ?_) 0 () m (Nat.zero_le _) ⟨rfl, rfl⟩
          obtain ⟨rfl, htk⟩ := hm1
          repeat refine AW.s rfl ?_
          try dsimp only [List.set_cons_zero, List.set_cons_succ, Option.toList_some, Option.toList_none, List.cons_append, List.nil_append]
          refine AW.c rfl (vp_in_nI (by omega) (by decide)) ?_
          try dsimp only [List.set_cons_zero, List.set_cons_succ, Option.toList_some, Option.toList_none, List.cons_append, List.nil_append]
          rw [nI_clamp (by omega), h1l]
          refine AW.b rfl (fun hc => ?_) (fun hc => ?_)
          · have hlt : i < xs.length := (nI_ltI (by omega) (by omega)).mp hc
            obtain ⟨x, hx⟩ : ∃ x, xs[i]? = some x := ⟨_, List.getElem?_eq_getElem hlt⟩
            obtain ⟨y, hy⟩ : ∃ y, ys[i]? = some y := ⟨_, List.getElem?_eq_getElem (by omega)⟩
            have x26 := a1 x (List.mem_of_getElem? hx)
            have y26 := b1 y (List.mem_of_getElem? hy)
            repeat refine AW.s rfl ?_
            try dsimp only [List.set_cons_zero, List.set_cons_succ, Option.toList_some, Option.toList_none, List.cons_append, List.nil_append]
            refine AW.b rfl (fun hc => ?_) (fun hc => ?_)
            · exact absurd hc (by decide)
            · repeat refine AW.s rfl ?_
              try dsimp only [List.set_cons_zero, List.set_cons_succ, Option.toList_some, Option.toList_none, List.cons_append, List.nil_append]
              rw [show (40 : Int32) * nI v = nI (40 * v) from pk_mul 40 v, nI_add]
              refine AW.c rfl (vp_in_nI (by omega) (by decide)) ?_
              try dsimp only [List.set_cons_zero, List.set_cons_succ, Option.toList_some, Option.toList_none, List.cons_append, List.nil_append]
              rw [nI_clamp (by omega), show m1 (243 + 17) (40 * v + i) = nI x from h1.2 i x hx]
              repeat refine AW.s rfl ?_
              try dsimp only [List.set_cons_zero, List.set_cons_succ, Option.toList_some, Option.toList_none, List.cons_append, List.nil_append]
              rw [show (40 : Int32) * nI w = nI (40 * w) from pk_mul 40 w, nI_add]
              refine AW.c rfl (vp_in_nI (by omega) (by decide)) ?_
              try dsimp only [List.set_cons_zero, List.set_cons_succ, Option.toList_some, Option.toList_none, List.cons_append, List.nil_append]
              rw [nI_clamp (by omega), show m1 (243 + 17) (40 * w + i) = nI y from h2.2 i y hy]
              refine AW.b rfl (fun hc => ?_) (fun hc => ?_)
              · have exy : x = y := (nI_eq (by omega) (by omega)).mp hc
                repeat refine AW.u 33 rfl rfl ?_
                try dsimp only [List.set_cons_zero, List.set_cons_succ, Option.toList_some, Option.toList_none, List.cons_append, List.nil_append]
                rw [nI_1]
                exact ih () _ hlt ⟨rfl, take_same hx hy exy htk⟩
              · have hne := hc
                repeat refine AW.u 33 rfl rfl ?_
                try dsimp only [List.set_cons_zero, List.set_cons_succ, Option.toList_some, Option.toList_none, List.cons_append, List.nil_append]
                rw [nI_1]
                refine hex (i + 1) (by omega) ?_
                unfold likeO
                simp only [Option.isSome_some, Bool.true_and, decide_eq_false_iff_not]
                intro e
                cases e
                rw [hx] at hy
                cases hy
                exact hne rfl
          · have : i = xs.length := by
              have : ¬ i < xs.length := fun q => hc ((nI_ltI (by omega) (by omega)).mpr q)
              omega
            subst this
            repeat refine AW.s rfl ?_
            try dsimp only [List.set_cons_zero, List.set_cons_succ, Option.toList_some, Option.toList_none, List.cons_append, List.nil_append]
            refine AW.ri rfl rfl rfl ⟨?_, rfl⟩
            rw [List.take_length, hlen, List.take_length] at htk
            subst htk
            simp [likeO]
        · exact absurd (nI_lt (a := 0) (by omega) (by omega)) hc
      · have hne := hc
        repeat refine AW.u 33 rfl rfl ?_
        try dsimp only [List.set_cons_zero, List.set_cons_succ, Option.toList_some, Option.toList_none, List.cons_append, List.nil_append]
        refine hex 0 (by decide) ?_
        unfold likeO
        simp only [Option.isSome_some, Bool.true_and, decide_eq_false_iff_not]
        intro e
        cases e
        exact hne rfl
/-- bits of words below i, and of word i by those below j -/
def mpP (n : Nat) (f : Nat → Option (List Nat)) (i j b : Nat) : Prop := ∃ q, q < n ∧ q ≠ b ∧ (b < i ∨ (b = i ∧ q < j)) ∧ likeO (f b) (f q) = true
theorem c_Malike {l : Launch} {X : XT} {d : Nat} {n : Nat} {m : Mem} {f : Nat → Option (List Nat)} (hd : 1 ≤ d) (hn : n ≤ 8) (hW : m 243 1 = nI n) (hK : ∀ w, w < n → RMs m w (f w)) (hfw : ∀ w, w < n → WFo (f w)) : Meth l X d M_X11_alike [vR 12 243] m (fun r1 m' => ∃ x, r1 = some (vI x) ∧ isBits x (alikeP n f) ∧ m' = m) := by
  obtain ⟨d, rfl⟩ : ∃ e, d = e + 1 := ⟨d - 1, by omega⟩
  refine E_X11_alike (ls := [vR 12 243, vU, vU, vU]) rfl rfl ?_
  repeat refine AW.u 4 rfl rfl ?_
  try dsimp only [List.set_cons_zero, List.set_cons_succ, Option.toList_some, Option.toList_none, List.cons_append, List.nil_append]
  refine AW.loop (pc := 4) (σ := Int32) n (fun i x => [vR 12 243, vI x, vI (nI i), vU]) (fun i x m1 => m1 = m ∧ isBits x (mpP n f i 0)) (fun i x m1 hi hm1 ih => ?_) 0 0 m (Nat.zero_le _) ⟨rfl, isBits.zero.to (fun b => ⟨fun q => absurd q id, fun ⟨q, _, _, h, _⟩ => by omega⟩)⟩
  obtain ⟨rfl, hb⟩ := hm1
  repeat refine AW.s rfl ?_
  try dsimp only [List.set_cons_zero, List.set_cons_succ, Option.toList_some, Option.toList_none, List.cons_append, List.nil_append]
  rw [hW]
  refine AW.b rfl (fun hc => ?_) (fun hc => ?_)
  · have hlt : i < n := (nI_ltI (by omega) (by omega)).mp hc
    repeat refine AW.u 14 rfl rfl ?_
    try dsimp only [List.set_cons_zero, List.set_cons_succ, Option.toList_some, Option.toList_none, List.cons_append, List.nil_append]
    refine AW.loop (pc := 14) (σ := Int32) n (fun j x => [vR 12 243, vI x, vI (nI i), vI (nI j)]) (fun j x m2 => m2 = m1 ∧ isBits x (mpP n f i j)) (fun j x m2 hj hm2 ih2 => ?_) 0 x m1 (Nat.zero_le _) ⟨rfl, hb⟩
    obtain ⟨rfl, hb2⟩ := hm2
    repeat refine AW.s rfl ?_
    try dsimp only [List.set_cons_zero, List.set_cons_succ, Option.toList_some, Option.toList_none, List.cons_append, List.nil_append]
    rw [hW]
    refine AW.b rfl (fun hc => ?_) (fun hc => ?_)
    · have hlt2 : j < n := (nI_ltI (by omega) (by omega)).mp hc
      have hskip : (i = j ∨ likeO (f i) (f j) = false) → AW (GM l X (d + 1) M_X11_alike (fun r1 m' => ∃ x, r1 = some (vI x) ∧ isBits x (alikeP n f) ∧ m' = m2)) 43 [vR 12 243, vI x, vI (nI i), vI (nI j)] [vI x] m2 := by
        intro hno
        repeat refine AW.u 14 rfl rfl ?_
        try dsimp only [List.set_cons_zero, List.set_cons_succ, Option.toList_some, Option.toList_none, List.cons_append, List.nil_append]
        rw [nI_1]
        have hx0 : x ||| 0 = x := by simp
        rw [hx0]
        refine ih2 _ _ hlt2 ⟨rfl, hb2.to (fun b => ⟨fun ⟨q, h1, h2, h3, h4⟩ => ⟨q, h1, h2, by omega, h4⟩, fun ⟨q, h1, h2, h3, h4⟩ => ?_⟩)⟩
        by_cases e : b = i ∧ q = j
        · obtain ⟨rfl, rfl⟩ := e
          rcases hno with q0 | q0
          · exact absurd q0.symm h2
          · rw [q0] at h4; cases h4
        · exact ⟨q, h1, h2, by omega, h4⟩
      repeat refine AW.s rfl ?_
      try dsimp only [List.set_cons_zero, List.set_cons_succ, Option.toList_some, Option.toList_none, List.cons_append, List.nil_append]
      refine AW.b rfl (fun hc => ?_) (fun hc => ?_)
      · have e : i = j := (nI_eq (by omega) (by omega)).mp hc
        exact hskip (Or.inl e)
      · have e : ¬ i = j := fun q => hc (by rw [q])
        repeat refine AW.s rfl ?_
        try dsimp only [List.set_cons_zero, List.set_cons_succ, Option.toList_some, Option.toList_none, List.cons_append, List.nil_append]
        refine AW.V k_11_245 ((c_MisAlike (show i < 8 by omega) (show j < 8 by omega) (hK i hlt) (hfw i hlt) (hK j hlt2) (hfw j hlt2))) rfl rfl rfl rfl rfl rfl (fun r1 m9 hq => ?_)
        obtain ⟨rfl, hm9⟩ := hq
        rw [hm9]
        try dsimp only [List.set_cons_zero, List.set_cons_succ, Option.toList_some, Option.toList_none, List.cons_append, List.nil_append]
        by_cases hl : likeO (f i) (f j) = true
        · rw [if_pos hl]
          refine AW.b rfl (fun hc => ?_) (fun hc => ?_)
          · exact absurd hc (by decide)
          · repeat refine AW.u 14 rfl rfl ?_
            try dsimp only [List.set_cons_zero, List.set_cons_succ, Option.toList_some, Option.toList_none, List.cons_append, List.nil_append]
            rw [nI_1]
            refine ih2 _ _ hlt2 ⟨rfl, (hb2.or (k := i) (by omega)).to (fun b => ⟨fun q => ?_, fun ⟨q, h1, h2, h3, h4⟩ => ?_⟩)⟩
            · rcases q with ⟨q, h1, h2, h3, h4⟩ | rfl
              · exact ⟨q, h1, h2, by omega, h4⟩
              · exact ⟨j, hlt2, fun z => e z.symm, by omega, hl⟩
            · by_cases e2 : b = i
              · exact Or.inr e2
              · exact Or.inl ⟨q, h1, h2, by omega, h4⟩
        · have hl2 : likeO (f i) (f j) = false := by simpa using hl
          rw [if_neg hl]
          refine AW.b rfl (fun hc => ?_) (fun hc => ?_)
          · exact hskip (Or.inr hl2)
          · exact absurd rfl hc
    · have : j = n := by
        have : ¬ j < n := fun q => hc ((nI_ltI (by omega) (by omega)).mpr q)
        omega
      subst this
      repeat refine AW.u 4 rfl rfl ?_
      try dsimp only [List.set_cons_zero, List.set_cons_succ, Option.toList_some, Option.toList_none, List.cons_append, List.nil_append]
      refine AW.fg 3 ?_
      try dsimp only [List.set_cons_zero, List.set_cons_succ, Option.toList_some, Option.toList_none, List.cons_append, List.nil_append]
      rw [nI_1]
      refine ih _ _ hlt ⟨rfl, hb2.to (fun b => ⟨fun ⟨q, h1, h2, h3, h4⟩ => ⟨q, h1, h2, by omega, h4⟩, fun ⟨q, h1, h2, h3, h4⟩ => ⟨q, h1, h2, by omega, h4⟩⟩)⟩
  · have : i = n := by
      have : ¬ i < n := fun q => hc ((nI_ltI (by omega) (by omega)).mpr q)
      omega
    subst this
    repeat refine AW.s rfl ?_
    try dsimp only [List.set_cons_zero, List.set_cons_succ, Option.toList_some, Option.toList_none, List.cons_append, List.nil_append]
    refine AW.ri rfl rfl rfl ⟨_, rfl, hb.to (fun b => ⟨fun ⟨q, h1, h2, h3, h4⟩ => ⟨by omega, q, h1, h2, h4⟩, fun ⟨h1, j, h2, h3, h4⟩ => ⟨j, h2, h3, Or.inl h1, h4⟩⟩), rfl⟩
