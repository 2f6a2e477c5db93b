-- ===== the model: sheet, cell, copy, rules =====
theorem InvM.s {m m' : Mem} {Ω : OM} {i : Nat} {s : Int32} {n : Nat} {f : Nat → Int32} (h : InvM m Ω) (hW : WO Ω) (h1 : m' 266 i = s) (h2 : m' 267 i = nI n) (h3 : ∀ k, k < n → m' 268 (40 * i + k) = f k) (g1 : ∀ j, j ≠ i → m' 266 j = m 266 j) (g2 : ∀ j, j ≠ i → m' 267 j = m 267 j) (g3 : ∀ q, (q < 40 * i ∨ 40 * i + 40 ≤ q) → m' 268 q = m 268 q) (hf : ∀ a, (a < 243 ∨ (244 ≤ a ∧ a ≤ 255) ∨ a = 265) → m' a = m a) (h0 : ∀ k, (k ≤ 14 ∨ k = 39) → m' 243 k = m 243 k) : InvM m' (uS Ω i s n f) := by
  obtain ⟨i1, i2, i3, i4, i5, i6, i7, i8, i9, i10⟩ := h
  refine ⟨i1.fr (h0 0 (by omega)) (h0 1 (by omega)) (h0 5 (by omega)) (h0 9 (by omega)) (h0 14 (by omega)) (fun a x1 x2 => hf a (by omega)), by rw [h0 39 (by omega)]; exact i2, fun k => (i3 k).fr (hf 265 (by omega)), by rw [h0 13 (by omega)]; exact i4, fun t ht p hp => ?_, by rw [h0 12 (by omega)]; exact i6, by rw [hf 251 (by omega)]; exact i7, fun j hj => ?_, by rw [hf 254 (by omega)]; exact i9, by rw [hf 255 (by omega)]; exact i10⟩
  · obtain ⟨cs, c1, c2⟩ := i5 t ht p hp
    exact ⟨cs, c1.fr (hf 252 (by omega)) (hf 253 (by omega)), c2⟩
  · unfold oS oZ oI uS
    by_cases e : j = i
    · subst e
      simp only [if_true]
      exact ⟨h1, h2, h3⟩
    · simp only [e, if_false]
      have hz := (hW.2.2.2.2.2.2 j hj).le
      unfold oZ at hz
      obtain ⟨x1, x2, x3⟩ := i8 j hj
      refine ⟨by rw [g1 j e]; exact x1, by rw [g2 j e]; exact x2, fun k hk => ?_⟩
      have hk : k < (Ω.2.2.1 j).2.1 := hk
      rw [g3 _ (by omega)]
      exact x3 k hk
theorem m1_lt {s : Int32} (h : ¬ s < -1) : s < 0 ↔ s = -1 := by
  constructor
  · intro h2
    have a1 := Int32.lt_iff_toInt_lt.mp h2
    have a2 : ¬ s.toInt < (-1 : Int32).toInt := fun q => h (Int32.lt_iff_toInt_lt.mpr q)
    have e1 : (-1 : Int32).toInt = -1 := rfl
    have e0 : (0 : Int32).toInt = 0 := rfl
    apply Int32.toInt_inj.1
    omega
  · intro e
    rw [e]
    decide
section
variable {l : Launch} {X : XT} {d : Nat} {m : Mem} {Ω : OM}
theorem M_sheet' {a s n : Int32} (hd : 5 ≤ d) (hW : WO Ω) (hI : InvM m Ω) : Meth l X d M_X11_sheet [vR 12 243, vI a, vI s, vI n] m (fun r m' => r = some (vI (sheetF Ω a s n).1) ∧ InvM m' (sheetF Ω a s n).2 ∧ KM m m' ∧ ∀ q, q ≠ 266 → q ≠ 267 → q ≠ 268 → m' q = m q) := by
  obtain ⟨d, rfl⟩ : ∃ e, d = e + 1 := ⟨d - 1, by omega⟩
  have hbad : sheetF Ω a s n = (-2, Ω) → AW (GM l X (d + 1) M_X11_sheet (fun r m' => r = some (vI (sheetF Ω a s n).1) ∧ InvM m' (sheetF Ω a s n).2 ∧ KM m m' ∧ ∀ q, q ≠ 266 → q ≠ 267 → q ≠ 268 → m' q = m q)) 26 [vR 12 243, vI a, vI s, vI n, vU] [] m := by
    intro e0
    rw [e0]
    repeat refine AW.s rfl ?_
    try dsimp only [List.set_cons_zero, List.set_cons_succ, Option.toList_some, Option.toList_none, List.cons_append, List.nil_append]
    exact AW.ri rfl rfl rfl ⟨rfl, hI, KM.rf, fun _ _ _ _ => rfl⟩
  -- the sheet is made anew: i, sort, size z
  have mk : ∀ (i z : Nat), i ≤ 3 → z ≤ 40 → a = nI i → sheetF Ω a s n = (1, uS Ω i s z (fun _ => 0)) → ∀ v : Int32, v = nI z → AW (GM l X (d + 1) M_X11_sheet (fun r m' => r = some (vI (sheetF Ω a s n).1) ∧ InvM m' (sheetF Ω a s n).2 ∧ KM m m' ∧ ∀ q, q ≠ 266 → q ≠ 267 → q ≠ 268 → m' q = m q)) 61 [vR 12 243, vI a, vI s, vI n, vU] [vI v, vI a, vR 1004 267] (mUp m 266 i s) := by
    intro i z hi hz ea e0 v ev
    subst ea
    subst ev
    rw [e0]
    refine AW.c rfl (⟨vp_in_nI (by omega) (by decide), fun z => absurd z (by decide)⟩) ?_
    try dsimp only [List.set_cons_zero, List.set_cons_succ, Option.toList_some, Option.toList_none, List.cons_append, List.nil_append]
    rw [nI_clamp (by omega)]
    repeat refine AW.u 65 rfl rfl ?_
    try dsimp only [List.set_cons_zero, List.set_cons_succ, Option.toList_some, Option.toList_none, List.cons_append, List.nil_append]
    refine AW.loop (pc := 65) (σ := Unit) 40 (fun k _ => [vR 12 243, vI (nI i), vI s, vI n, vI (nI k)]) (fun k _ m1 => (∀ q, q ≠ 268 → m1 q = mUp (mUp m 266 i s) 267 i (nI z) q) ∧ (∀ j, j < k → m1 268 (40 * i + j) = 0) ∧ ∀ q, (q < 40 * i ∨ 40 * i + 40 ≤ q) → m1 268 q = m 268 q) (fun k _ m1 hk hm1 ih => ?_) 0 () _ (Nat.zero_le _) ⟨fun _ _ => rfl, fun j hj => absurd hj (by omega), fun q _ => by rw [mUp_a (by decide), mUp_a (by decide)]⟩
    obtain ⟨g1, g2, g3⟩ := hm1
    repeat refine AW.s rfl ?_
    try dsimp only [List.set_cons_zero, List.set_cons_succ, Option.toList_some, Option.toList_none, List.cons_append, List.nil_append]
    refine AW.b rfl (fun hc => ?_) (fun hc => ?_)
    · have hlt : k < 40 := (nI_ltI (b := 40) (by omega) (by decide)).mp hc
      repeat refine AW.s rfl ?_
      try dsimp only [List.set_cons_zero, List.set_cons_succ, Option.toList_some, Option.toList_none, List.cons_append, List.nil_append]
      rw [show (40 : Int32) * nI i = nI (40 * i) from pk_mul 40 i, nI_add]
      refine AW.c rfl (⟨vp_in_nI (by omega) (by decide), fun z => absurd z (by decide)⟩) ?_
      try dsimp only [List.set_cons_zero, List.set_cons_succ, Option.toList_some, Option.toList_none, List.cons_append, List.nil_append]
      rw [nI_clamp (by omega)]
      repeat refine AW.u 65 rfl rfl ?_
      try dsimp only [List.set_cons_zero, List.set_cons_succ, Option.toList_some, Option.toList_none, List.cons_append, List.nil_append]
      rw [nI_1]
      refine ih () _ hlt ⟨fun q hq => by rw [mUp_a hq]; exact g1 q hq, fun j hj => ?_, fun q hq => by rw [mUp_n (Or.inr (by omega))]; exact g3 q hq⟩
      by_cases e : j = k
      · subst e; exact mUp_s _ _ _ _
      · rw [mUp_n (Or.inr (by omega))]; exact g2 j (by omega)
    · have : k = 40 := by
        have : ¬ k < 40 := fun q => hc (nI_lt (b := 40) q (by decide))
        omega
      subst this
      have gg : ∀ q, q ≠ 266 → q ≠ 267 → q ≠ 268 → m1 q = m q := fun q x1 x2 x3 => by rw [g1 q x3, mUp_a x2, mUp_a x1]
      repeat refine AW.s rfl ?_
      try dsimp only [List.set_cons_zero, List.set_cons_succ, Option.toList_some, Option.toList_none, List.cons_append, List.nil_append]
      refine AW.ri rfl rfl rfl ⟨rfl, hI.s hW ?_ ?_ (fun k hk => g2 k (by omega)) (fun j hj => ?_) (fun j hj => ?_) g3 (fun q hq => gg q (by omega) (by omega) (by omega)) (fun k hk => by rw [gg 243 (by decide) (by decide) (by decide)]), fun q hq => gg q (by omega) (by omega) (by omega), gg⟩
      · rw [g1 266 (by decide), mUp_a (by decide), mUp_s]
      · rw [g1 267 (by decide), mUp_s]
      · rw [g1 266 (by decide), mUp_a (by decide), mUp_n (Or.inr hj)]
      · rw [g1 267 (by decide), mUp_n (Or.inr hj), mUp_a (by decide)]
  refine E_X11_sheet (ls := [vR 12 243, vI a, vI s, vI n, vU]) rfl rfl ?_
  repeat refine AW.s rfl ?_
  try dsimp only [List.set_cons_zero, List.set_cons_succ, Option.toList_some, Option.toList_none, List.cons_append, List.nil_append]
  refine AW.S k_11_14 ((c_MisSheet (by omega))) rfl rfl rfl rfl (fun r1 m9 hq => ?_)
  obtain ⟨rfl, hm9⟩ := hq
  rw [hm9]
  try dsimp only [List.set_cons_zero, List.set_cons_succ, Option.toList_some, Option.toList_none, List.cons_append, List.nil_append]
  by_cases q1 : wB a 3 = 1
  · rw [q1]
    obtain ⟨i, hi, ea⟩ := (wB_1 (n := 3) (by decide)).mp q1
    refine AW.b rfl (fun hc => ?_) (fun hc => ?_)
    · exact absurd hc (by decide)
    · repeat refine AW.s rfl ?_
      try dsimp only [List.set_cons_zero, List.set_cons_succ, Option.toList_some, Option.toList_none, List.cons_append, List.nil_append]
      refine AW.S k_11_7 (c_isIn) rfl rfl rfl rfl (fun r1 m8 hq => ?_)
      obtain ⟨rfl, hm8⟩ := hq
      rw [hm8]
      try dsimp only [List.set_cons_zero, List.set_cons_succ, Option.toList_some, Option.toList_none, List.cons_append, List.nil_append]
      by_cases q2 : s < -1
      · rw [if_pos q2]
        refine AW.b rfl (fun hc => ?_) (fun hc => ?_)
        · exact hbad (by unfold sheetF; rw [cif_f (fun q => q.2.1 q2)])
        · exact absurd rfl hc
      · rw [if_neg q2]
        by_cases q3 : 2 < s
        · rw [if_pos q3]
          refine AW.b rfl (fun hc => ?_) (fun hc => ?_)
          · exact hbad (by unfold sheetF; rw [cif_f (fun q => q.2.2 q3)])
          · exact absurd rfl hc
        · rw [if_neg q3]
          have e0 : sheetF Ω a s n = cif (s = -1) (1, uS Ω i (-1) 0 (fun _ => 0)) (cif (40 < n) (-2, Ω) (cif (n < 0) (-14, Ω) (1, uS Ω i s n.toNatClampNeg (fun _ => 0)))) := by
            unfold sheetF
            rw [cif_t ⟨q1, q2, q3⟩, ea, nI_clamp (by omega)]
          refine AW.b rfl (fun hc => ?_) (fun hc => ?_)
          · exact absurd hc (by decide)
          · repeat refine AW.s rfl ?_
            try dsimp only [List.set_cons_zero, List.set_cons_succ, Option.toList_some, Option.toList_none, List.cons_append, List.nil_append]
            refine AW.b rfl (fun hc => ?_) (fun hc => ?_)
            · have q4 : s = -1 := (m1_lt q2).mp hc
              rw [cif_t q4] at e0
              repeat refine AW.s rfl ?_
              try dsimp only [List.set_cons_zero, List.set_cons_succ, Option.toList_some, Option.toList_none, List.cons_append, List.nil_append]
              refine AW.b rfl (fun hc => ?_) (fun hc => ?_)
              · repeat refine AW.s rfl ?_
                try dsimp only [List.set_cons_zero, List.set_cons_succ, Option.toList_some, Option.toList_none, List.cons_append, List.nil_append]
                refine AW.c rfl (⟨by rw [ea]; exact vp_in_nI (by omega) (by decide), fun z => absurd z (by decide)⟩) ?_
                try dsimp only [List.set_cons_zero, List.set_cons_succ, Option.toList_some, Option.toList_none, List.cons_append, List.nil_append]
                rw [show a.toNatClampNeg = i by rw [ea]; exact nI_clamp (by omega)]
                repeat refine AW.s rfl ?_
                try dsimp only [List.set_cons_zero, List.set_cons_succ, Option.toList_some, Option.toList_none, List.cons_append, List.nil_append]
                refine AW.b rfl (fun hc => ?_) (fun hc => ?_)
                · repeat refine AW.u 61 rfl rfl ?_
                  try dsimp only [List.set_cons_zero, List.set_cons_succ, Option.toList_some, Option.toList_none, List.cons_append, List.nil_append]
                  exact mk i 0 hi (by decide) ea (by rw [e0, q4]) 0 rfl
                · exact absurd (by assumption) hc
              · exact absurd (by assumption) hc
            · have q4 : ¬ s = -1 := fun q => hc ((m1_lt q2).mpr q)
              have qs : ¬ s < 0 := hc
              rw [cif_f q4] at e0
              repeat refine AW.s rfl ?_
              try dsimp only [List.set_cons_zero, List.set_cons_succ, Option.toList_some, Option.toList_none, List.cons_append, List.nil_append]
              refine AW.b rfl (fun hc => ?_) (fun hc => ?_)
              · have q5 : 40 < n := hc
                exact hbad (by rw [e0, cif_t q5])
              · have q5 : ¬ 40 < n := hc
                rw [cif_f q5] at e0
                repeat refine AW.s rfl ?_
                try dsimp only [List.set_cons_zero, List.set_cons_succ, Option.toList_some, Option.toList_none, List.cons_append, List.nil_append]
                refine AW.b rfl (fun hc => ?_) (fun hc => ?_)
                · exact absurd hc qs
                · repeat refine AW.s rfl ?_
                  try dsimp only [List.set_cons_zero, List.set_cons_succ, Option.toList_some, Option.toList_none, List.cons_append, List.nil_append]
                  refine AW.b rfl (fun hc => ?_) (fun hc => ?_)
                  · have q6 : n < 0 := hc
                    rw [cif_t q6] at e0
                    rw [e0]
                    repeat refine AW.s rfl ?_
                    try dsimp only [List.set_cons_zero, List.set_cons_succ, Option.toList_some, Option.toList_none, List.cons_append, List.nil_append]
                    exact AW.ri rfl rfl rfl ⟨rfl, hI, KM.rf, fun _ _ _ _ => rfl⟩
                  · have q6 : ¬ n < 0 := hc
                    rw [cif_f q6] at e0
                    obtain ⟨j, hj, ej⟩ := nI_of q6
                    have hj40 : j ≤ 40 := by
                      have : ¬ 40 < j := fun q => q5 (by rw [ej]; exact nI_lt (a := 40) q hj)
                      omega
                    rw [ej, nI_clamp (by omega), ← ej] at e0
                    repeat refine AW.s rfl ?_
                    try dsimp only [List.set_cons_zero, List.set_cons_succ, Option.toList_some, Option.toList_none, List.cons_append, List.nil_append]
                    refine AW.c rfl (⟨by rw [ea]; exact vp_in_nI (by omega) (by decide), fun z => absurd z (by decide)⟩) ?_
                    try dsimp only [List.set_cons_zero, List.set_cons_succ, Option.toList_some, Option.toList_none, List.cons_append, List.nil_append]
                    rw [show a.toNatClampNeg = i by rw [ea]; exact nI_clamp (by omega)]
                    repeat refine AW.s rfl ?_
                    try dsimp only [List.set_cons_zero, List.set_cons_succ, Option.toList_some, Option.toList_none, List.cons_append, List.nil_append]
                    refine AW.b rfl (fun hc => ?_) (fun hc => ?_)
                    · exact absurd hc qs
                    · repeat refine AW.u 61 rfl rfl ?_
                      try dsimp only [List.set_cons_zero, List.set_cons_succ, Option.toList_some, Option.toList_none, List.cons_append, List.nil_append]
                      exact mk i j hi hj40 ea e0 n ej
  · rw [wB_0 q1]
    refine AW.b rfl (fun hc => ?_) (fun hc => ?_)
    · exact hbad (by unfold sheetF; rw [cif_f (fun q => q1 q.1)])
    · exact absurd rfl hc
theorem M_sheet {a s n : Int32} (hd : 5 ≤ d) (hW : WO Ω) (hI : InvM m Ω) : Meth l X d M_X11_sheet [vR 12 243, vI a, vI s, vI n] m (fun r m' => r = some (vI (sheetF Ω a s n).1) ∧ InvM m' (sheetF Ω a s n).2 ∧ KM m m') := (M_sheet' hd hW hI).post (fun r m' h => ⟨h.1, h.2.1, h.2.2.1⟩)
theorem M_cell {a i v : Int32} (hd : 5 ≤ d) (hW : WO Ω) (hI : InvM m Ω) : Meth l X d M_X11_cell [vR 12 243, vI a, vI i, vI v] m (fun r m' => r = some (vI (cellF Ω a i v).1) ∧ InvM m' (cellF Ω a i v).2 ∧ KM m m') := by
  obtain ⟨d, rfl⟩ : ∃ e, d = e + 1 := ⟨d - 1, by omega⟩
  refine E_X11_cell (ls := [vR 12 243, vI a, vI i, vI v]) rfl rfl ?_
  repeat refine AW.s rfl ?_
  try dsimp only [List.set_cons_zero, List.set_cons_succ, Option.toList_some, Option.toList_none, List.cons_append, List.nil_append]
  refine AW.S k_11_14 ((c_MisSheet (by omega))) rfl rfl rfl rfl (fun r1 m9 hq => ?_)
  obtain ⟨rfl, hm9⟩ := hq
  rw [hm9]
  try dsimp only [List.set_cons_zero, List.set_cons_succ, Option.toList_some, Option.toList_none, List.cons_append, List.nil_append]
  by_cases q1 : wB a 3 = 1
  · rw [q1]
    obtain ⟨j, hj, rfl⟩ := (wB_1 (n := 3) (by decide)).mp q1
    have e0 : cellF Ω (nI j) i v = cif (oS Ω j = -1) (-11, Ω) (cif (hB i (oZ Ω j) = 1) (1, uS Ω j (oS Ω j) (oZ Ω j) (upd (oI Ω j) i.toNatClampNeg (putV (oS Ω j).toNatClampNeg v))) (-12, Ω)) := by
      unfold cellF
      rw [cif_t q1, nI_clamp (by omega)]
    obtain ⟨s1, s2, s3⟩ := hI.2.2.2.2.2.2.2.1 j (by omega)
    have hsh := hW.2.2.2.2.2.2 j (by omega)
    have hz := hsh.le
    refine AW.b rfl (fun hc => ?_) (fun hc => ?_)
    · exact absurd hc (by decide)
    · repeat refine AW.s rfl ?_
      try dsimp only [List.set_cons_zero, List.set_cons_succ, Option.toList_some, Option.toList_none, List.cons_append, List.nil_append]
      refine AW.c rfl (vp_in_nI (by omega) (by decide)) ?_
      try dsimp only [List.set_cons_zero, List.set_cons_succ, Option.toList_some, Option.toList_none, List.cons_append, List.nil_append]
      rw [nI_clamp (by omega), show m (243 + 23) j = oS Ω j from s1]
      refine AW.b rfl (fun hc => ?_) (fun hc => ?_)
      · have q3 := (sort_lt hsh).mp hc
        rw [cif_t q3] at e0
        rw [e0]
        repeat refine AW.s rfl ?_
        try dsimp only [List.set_cons_zero, List.set_cons_succ, Option.toList_some, Option.toList_none, List.cons_append, List.nil_append]
        exact AW.ri rfl rfl rfl ⟨rfl, hI, KM.rf⟩
      · have q3 : ¬ oS Ω j = -1 := fun q => hc ((sort_lt hsh).mpr q)
        rw [cif_f q3] at e0
        obtain ⟨s, hs3, hs⟩ := hsh.sort q3
        repeat refine AW.s rfl ?_
        try dsimp only [List.set_cons_zero, List.set_cons_succ, Option.toList_some, Option.toList_none, List.cons_append, List.nil_append]
        refine AW.c rfl (vp_in_nI (by omega) (by decide)) ?_
        try dsimp only [List.set_cons_zero, List.set_cons_succ, Option.toList_some, Option.toList_none, List.cons_append, List.nil_append]
        rw [nI_clamp (by omega), show m (243 + 24) j = nI (oZ Ω j) from s2]
        repeat refine AW.s rfl ?_
        try dsimp only [List.set_cons_zero, List.set_cons_succ, Option.toList_some, Option.toList_none, List.cons_append, List.nil_append]
        refine AW.S k_11_7 (c_isIn) rfl rfl rfl rfl (fun r1 m8 hq => ?_)
        obtain ⟨rfl, hm8⟩ := hq
        rw [hm8, show (if i < 0 then (0 : Int32) else if nI (oZ Ω j) - 1 < i then 0 else 1) = hB i (oZ Ω j) from inB_hB (by omega)]
        try dsimp only [List.set_cons_zero, List.set_cons_succ, Option.toList_some, Option.toList_none, List.cons_append, List.nil_append]
        by_cases q4 : hB i (oZ Ω j) = 1
        · rw [cif_t q4] at e0
          rw [q4]
          obtain ⟨k, hk, rfl⟩ := (hB_1 (by omega)).mp q4
          rw [nI_clamp (by omega), hs, nI_clamp (show s < 2 ^ 31 by omega)] at e0
          -- the store of w
          have put : ∀ w : Int32, w = putV s v → AW (GM l X (d + 1) M_X11_cell (fun r m' => r = some (vI (cellF Ω (nI j) (nI k) v).1) ∧ InvM m' (cellF Ω (nI j) (nI k) v).2 ∧ KM m m')) 81 [vR 12 243, vI (nI j), vI (nI k), vI v] [vI w, vI (nI (40 * j + k)), vR 1160 268] m := by
            intro w hw
            rw [e0]
            refine AW.c rfl (⟨vp_in_nI (by omega) (by decide), fun z => absurd z (by decide)⟩) ?_
            try dsimp only [List.set_cons_zero, List.set_cons_succ, Option.toList_some, Option.toList_none, List.cons_append, List.nil_append]
            rw [nI_clamp (by omega)]
            repeat refine AW.s rfl ?_
            try dsimp only [List.set_cons_zero, List.set_cons_succ, Option.toList_some, Option.toList_none, List.cons_append, List.nil_append]
            refine AW.ri rfl rfl rfl ⟨rfl, hI.s hW ?_ ?_ (fun q hq => ?_) (fun q _ => by rw [mUp_a (by decide)]) (fun q _ => by rw [mUp_a (by decide)]) (fun q hq => mUp_n (Or.inr (by omega))) (fun q hq => mUp_a (by omega)) (fun k hk => by rw [mUp_a (by decide)]), fun q hq => mUp_a (by omega)⟩
            · rw [mUp_a (by decide), s1]; exact hs
            · rw [mUp_a (by decide)]; exact s2
            · by_cases e : q = k
              · subst e; rw [mUp_s, hw]; simp [upd]
              · rw [mUp_n (Or.inr (by omega)), s3 q hq]; simp [upd, e]
          refine AW.b rfl (fun hc => ?_) (fun hc => ?_)
          · exact absurd hc (by decide)
          · repeat refine AW.s rfl ?_
            try dsimp only [List.set_cons_zero, List.set_cons_succ, Option.toList_some, Option.toList_none, List.cons_append, List.nil_append]
            rw [show (40 : Int32) * nI j = nI (40 * j) from pk_mul 40 j, nI_add]
            refine AW.c rfl (vp_in_nI (by omega) (by decide)) ?_
            try dsimp only [List.set_cons_zero, List.set_cons_succ, Option.toList_some, Option.toList_none, List.cons_append, List.nil_append]
            rw [nI_clamp (by omega), show m (243 + 23) j = nI s by rw [← hs]; exact s1]
            refine AW.b rfl (fun hc => ?_) (fun hc => ?_)
            · have z0 : s = 0 := (nI_eq (b := 0) (by omega) (by decide)).mp hc
              repeat refine AW.u 81 rfl rfl ?_
              try dsimp only [List.set_cons_zero, List.set_cons_succ, Option.toList_some, Option.toList_none, List.cons_append, List.nil_append]
              exact put _ (by unfold putV; rw [if_pos z0])
            · have z0 : ¬ s = 0 := fun q => hc (by rw [q]; rfl)
              repeat refine AW.s rfl ?_
              try dsimp only [List.set_cons_zero, List.set_cons_succ, Option.toList_some, Option.toList_none, List.cons_append, List.nil_append]
              refine AW.c rfl (vp_in_nI (by omega) (by decide)) ?_
              try dsimp only [List.set_cons_zero, List.set_cons_succ, Option.toList_some, Option.toList_none, List.cons_append, List.nil_append]
              rw [nI_clamp (by omega), show m (243 + 23) j = nI s by rw [← hs]; exact s1]
              repeat refine AW.s rfl ?_
              try dsimp only [List.set_cons_zero, List.set_cons_succ, Option.toList_some, Option.toList_none, List.cons_append, List.nil_append]
              refine AW.b rfl (fun hc => ?_) (fun hc => ?_)
              · have z1 : s = 1 := (nI_eq (b := 1) (by omega) (by decide)).mp hc
                repeat refine AW.u 81 rfl rfl ?_
                try dsimp only [List.set_cons_zero, List.set_cons_succ, Option.toList_some, Option.toList_none, List.cons_append, List.nil_append]
                exact put _ (by unfold putV; rw [if_neg z0, if_pos z1])
              · have z1 : ¬ s = 1 := fun q => hc (by rw [q]; rfl)
                repeat refine AW.u 81 rfl rfl ?_
                try dsimp only [List.set_cons_zero, List.set_cons_succ, Option.toList_some, Option.toList_none, List.cons_append, List.nil_append]
                exact put _ (by unfold putV; rw [if_neg z0, if_neg z1])
        · rw [cif_f q4] at e0
          rw [hB_0 q4, e0]
          refine AW.b rfl (fun hc => ?_) (fun hc => ?_)
          · repeat refine AW.s rfl ?_
            try dsimp only [List.set_cons_zero, List.set_cons_succ, Option.toList_some, Option.toList_none, List.cons_append, List.nil_append]
            exact AW.ri rfl rfl rfl ⟨rfl, hI, KM.rf⟩
          · exact absurd rfl hc
  · have e0 : cellF Ω a i v = (-2, Ω) := by unfold cellF; rw [cif_f q1]
    rw [wB_0 q1, e0]
    refine AW.b rfl (fun hc => ?_) (fun hc => ?_)
    · repeat refine AW.s rfl ?_
      try dsimp only [List.set_cons_zero, List.set_cons_succ, Option.toList_some, Option.toList_none, List.cons_append, List.nil_append]
      exact AW.ri rfl rfl rfl ⟨rfl, hI, KM.rf⟩
    · exact absurd rfl hc
theorem M_copy {a i b j n : Int32} (hd : 5 ≤ d) (hW : WO Ω) (hI : InvM m Ω) : Meth l X d M_X11_copy [vR 12 243, vI a, vI i, vI b, vI j, vI n] m (fun r m' => r = some (vI (copyF Ω a i b j n).1) ∧ InvM m' (copyF Ω a i b j n).2 ∧ KM m m') := by
  obtain ⟨d, rfl⟩ : ∃ e, d = e + 1 := ⟨d - 1, by omega⟩
  refine E_X11_copy (ls := [vR 12 243, vI a, vI i, vI b, vI j, vI n, vU]) rfl rfl ?_
  repeat refine AW.s rfl ?_
  try dsimp only [List.set_cons_zero, List.set_cons_succ, Option.toList_some, Option.toList_none, List.cons_append, List.nil_append]
  refine AW.S k_11_14 ((c_MisSheet (by omega))) rfl rfl rfl rfl (fun r1 m9 hq => ?_)
  obtain ⟨rfl, hm9⟩ := hq
  rw [hm9]
  try dsimp only [List.set_cons_zero, List.set_cons_succ, Option.toList_some, Option.toList_none, List.cons_append, List.nil_append]
  by_cases q1 : wB a 3 = 1
  · rw [q1]
    refine AW.b rfl (fun hc => ?_) (fun hc => ?_)
    · exact absurd hc (by decide)
    · repeat refine AW.s rfl ?_
      try dsimp only [List.set_cons_zero, List.set_cons_succ, Option.toList_some, Option.toList_none, List.cons_append, List.nil_append]
      refine AW.S k_11_14 ((c_MisSheet (by omega))) rfl rfl rfl rfl (fun r1 m8 hq => ?_)
      obtain ⟨rfl, hm8⟩ := hq
      rw [hm8]
      try dsimp only [List.set_cons_zero, List.set_cons_succ, Option.toList_some, Option.toList_none, List.cons_append, List.nil_append]
      by_cases q2 : wB b 3 = 1
      · rw [q2]
        obtain ⟨p, hp, rfl⟩ := (wB_1 (n := 3) (by decide)).mp q1
        obtain ⟨q, hq3, rfl⟩ := (wB_1 (n := 3) (by decide)).mp q2
        have e0 : copyF Ω (nI p) i (nI q) j n = cif (oS Ω p = -1 ∨ oS Ω q = -1) (-11, Ω) (cif (oS Ω p = oS Ω q) (cif (hoB (oZ Ω p) i n = 1 ∧ hoB (oZ Ω q) j n = 1) (n, uS Ω q (oS Ω q) (oZ Ω q) (va_cpy (oI Ω p) (oI Ω q) i.toNatClampNeg j.toNatClampNeg n.toNatClampNeg)) (-12, Ω)) (-13, Ω)) := by
          unfold copyF
          rw [cif_t ⟨q1, q2⟩, nI_clamp (by omega), nI_clamp (by omega)]
        obtain ⟨s1, s2, s3⟩ := hI.2.2.2.2.2.2.2.1 p (by omega)
        obtain ⟨t1, t2, t3⟩ := hI.2.2.2.2.2.2.2.1 q (by omega)
        have hsp := hW.2.2.2.2.2.2 p (by omega)
        have hsq := hW.2.2.2.2.2.2 q (by omega)
        have hz := hsp.le
        have hz2 := hsq.le
        have hno : oS Ω p = -1 ∨ oS Ω q = -1 → AW (GM l X (d + 1) M_X11_copy (fun r m' => r = some (vI (copyF Ω (nI p) i (nI q) j n).1) ∧ InvM m' (copyF Ω (nI p) i (nI q) j n).2 ∧ KM m m')) 35 [vR 12 243, vI (nI p), vI i, vI (nI q), vI j, vI n, vU] [] m := by
          intro h
          rw [cif_t h] at e0
          rw [e0]
          repeat refine AW.s rfl ?_
          try dsimp only [List.set_cons_zero, List.set_cons_succ, Option.toList_some, Option.toList_none, List.cons_append, List.nil_append]
          exact AW.ri rfl rfl rfl ⟨rfl, hI, KM.rf⟩
        refine AW.b rfl (fun hc => ?_) (fun hc => ?_)
        · exact absurd hc (by decide)
        · repeat refine AW.s rfl ?_
          try dsimp only [List.set_cons_zero, List.set_cons_succ, Option.toList_some, Option.toList_none, List.cons_append, List.nil_append]
          refine AW.c rfl (vp_in_nI (by omega) (by decide)) ?_
          try dsimp only [List.set_cons_zero, List.set_cons_succ, Option.toList_some, Option.toList_none, List.cons_append, List.nil_append]
          rw [nI_clamp (by omega), show m (243 + 23) p = oS Ω p from s1]
          refine AW.b rfl (fun hc => ?_) (fun hc => ?_)
          · exact hno (Or.inl ((sort_lt hsp).mp hc))
          · have q3 : ¬ oS Ω p = -1 := fun z => hc ((sort_lt hsp).mpr z)
            repeat refine AW.s rfl ?_
            try dsimp only [List.set_cons_zero, List.set_cons_succ, Option.toList_some, Option.toList_none, List.cons_append, List.nil_append]
            refine AW.c rfl (vp_in_nI (by omega) (by decide)) ?_
            try dsimp only [List.set_cons_zero, List.set_cons_succ, Option.toList_some, Option.toList_none, List.cons_append, List.nil_append]
            rw [nI_clamp (by omega), show m (243 + 23) q = oS Ω q from t1]
            refine AW.b rfl (fun hc => ?_) (fun hc => ?_)
            · exact hno (Or.inr ((sort_lt hsq).mp hc))
            · have q4 : ¬ oS Ω q = -1 := fun z => hc ((sort_lt hsq).mpr z)
              rw [cif_f (fun z => z.elim q3 q4)] at e0
              repeat refine AW.s rfl ?_
              try dsimp only [List.set_cons_zero, List.set_cons_succ, Option.toList_some, Option.toList_none, List.cons_append, List.nil_append]
              refine AW.c rfl (vp_in_nI (by omega) (by decide)) ?_
              try dsimp only [List.set_cons_zero, List.set_cons_succ, Option.toList_some, Option.toList_none, List.cons_append, List.nil_append]
              rw [nI_clamp (by omega), show m (243 + 23) p = oS Ω p from s1]
              repeat refine AW.s rfl ?_
              try dsimp only [List.set_cons_zero, List.set_cons_succ, Option.toList_some, Option.toList_none, List.cons_append, List.nil_append]
              refine AW.c rfl (vp_in_nI (by omega) (by decide)) ?_
              try dsimp only [List.set_cons_zero, List.set_cons_succ, Option.toList_some, Option.toList_none, List.cons_append, List.nil_append]
              rw [nI_clamp (by omega), show m (243 + 23) q = oS Ω q from t1]
              refine AW.b rfl (fun hc => ?_) (fun hc => ?_)
              · have q5 := hc
                rw [cif_t q5] at e0
                have hbad : ¬ (hoB (oZ Ω p) i n = 1 ∧ hoB (oZ Ω q) j n = 1) → AW (GM l X (d + 1) M_X11_copy (fun r m' => r = some (vI (copyF Ω (nI p) i (nI q) j n).1) ∧ InvM m' (copyF Ω (nI p) i (nI q) j n).2 ∧ KM m m')) 97 [vR 12 243, vI (nI p), vI i, vI (nI q), vI j, vI n, vU] [] m := by
                  intro hn
                  rw [cif_f hn] at e0
                  rw [e0]
                  repeat refine AW.s rfl ?_
                  try dsimp only [List.set_cons_zero, List.set_cons_succ, Option.toList_some, Option.toList_none, List.cons_append, List.nil_append]
                  exact AW.ri rfl rfl rfl ⟨rfl, hI, KM.rf⟩
                repeat refine AW.s rfl ?_
                try dsimp only [List.set_cons_zero, List.set_cons_succ, Option.toList_some, Option.toList_none, List.cons_append, List.nil_append]
                refine AW.b rfl (fun hc => ?_) (fun hc => ?_)
                · have z := hc
                  exact hbad (fun w => by have := w.1; obtain ⟨f', c', e1, e2, e3⟩ := (hoB_1 (by omega)).mp this; rw [e2] at z; exact absurd z (nI_pos (by omega)))
                · have n0 := hc
                  repeat refine AW.s rfl ?_
                  try dsimp only [List.set_cons_zero, List.set_cons_succ, Option.toList_some, Option.toList_none, List.cons_append, List.nil_append]
                  refine AW.b rfl (fun hc => ?_) (fun hc => ?_)
                  · have z := hc
                    exact hbad (fun w => by have := w.1; unfold hoB at this; rw [if_pos z] at this; exact absurd this (by decide))
                  · have i0 := hc
                    repeat refine AW.s rfl ?_
                    try dsimp only [List.set_cons_zero, List.set_cons_succ, Option.toList_some, Option.toList_none, List.cons_append, List.nil_append]
                    refine AW.b rfl (fun hc => ?_) (fun hc => ?_)
                    · have z := hc
                      exact hbad (fun w => by have := w.2; unfold hoB at this; rw [if_pos z] at this; exact absurd this (by decide))
                    · have j0 := hc
                      obtain ⟨f, hf, rfl⟩ := nI_of i0
                      obtain ⟨g, hg, rfl⟩ := nI_of j0
                      obtain ⟨c, hcc, rfl⟩ := nI_of n0
                      have dif : ∀ (z f c : Nat), z ≤ 40 → f < 2 ^ 31 → c < 2 ^ 31 → (nI z - nI f < nI c ↔ ¬ f + c ≤ z) := by
                        intro z f c h1 h2 h3
                        have e1 : (nI z - nI f).toInt = (z : Int) - f := by
                          rw [Int32.toInt_sub, nI_toInt (by omega), nI_toInt h2]
                          exact Int.bmod_eq_of_le (by omega) (by omega)
                        rw [Int32.lt_iff_toInt_lt, e1, nI_toInt h3]
                        omega
                      repeat refine AW.s rfl ?_
                      try dsimp only [List.set_cons_zero, List.set_cons_succ, Option.toList_some, Option.toList_none, List.cons_append, List.nil_append]
                      refine AW.c rfl (vp_in_nI (by omega) (by decide)) ?_
                      try dsimp only [List.set_cons_zero, List.set_cons_succ, Option.toList_some, Option.toList_none, List.cons_append, List.nil_append]
                      rw [nI_clamp (by omega), show m (243 + 24) p = nI (oZ Ω p) from s2]
                      repeat refine AW.s rfl ?_
                      try dsimp only [List.set_cons_zero, List.set_cons_succ, Option.toList_some, Option.toList_none, List.cons_append, List.nil_append]
                      refine AW.b rfl (fun hc => ?_) (fun hc => ?_)
                      · have z := (dif _ _ _ hz hf hcc).mp hc
                        exact hbad (fun w => by
                          obtain ⟨f', c', e1, e2, e3⟩ := (hoB_1 (by omega)).mp w.1
                          have := (nI_eq hf (by omega)).mp e1
                          have := (nI_eq hcc (by omega)).mp e2
                          omega)
                      · have z1 : f + c ≤ oZ Ω p := by
                          have : ¬ ¬ f + c ≤ oZ Ω p := fun w => hc ((dif _ _ _ hz hf hcc).mpr w)
                          omega
                        repeat refine AW.s rfl ?_
                        try dsimp only [List.set_cons_zero, List.set_cons_succ, Option.toList_some, Option.toList_none, List.cons_append, List.nil_append]
                        refine AW.c rfl (vp_in_nI (by omega) (by decide)) ?_
                        try dsimp only [List.set_cons_zero, List.set_cons_succ, Option.toList_some, Option.toList_none, List.cons_append, List.nil_append]
                        rw [nI_clamp (by omega), show m (243 + 24) q = nI (oZ Ω q) from t2]
                        repeat refine AW.s rfl ?_
                        try dsimp only [List.set_cons_zero, List.set_cons_succ, Option.toList_some, Option.toList_none, List.cons_append, List.nil_append]
                        refine AW.b rfl (fun hc => ?_) (fun hc => ?_)
                        · have z := (dif _ _ _ hz2 hg hcc).mp hc
                          exact hbad (fun w => by
                            obtain ⟨f', c', e1, e2, e3⟩ := (hoB_1 (by omega)).mp w.2
                            have := (nI_eq hg (by omega)).mp e1
                            have := (nI_eq hcc (by omega)).mp e2
                            omega)
                        · have z2 : g + c ≤ oZ Ω q := by
                            have : ¬ ¬ g + c ≤ oZ Ω q := fun w => hc ((dif _ _ _ hz2 hg hcc).mpr w)
                            omega
                          rw [cif_t ⟨(hoB_1 (by omega)).mpr ⟨f, c, rfl, rfl, z1⟩, (hoB_1 (by omega)).mpr ⟨g, c, rfl, rfl, z2⟩⟩, nI_clamp (by omega), nI_clamp (by omega), nI_clamp (by omega)] at e0
                          rw [e0]
                          repeat refine AW.u 103 rfl rfl ?_
                          try dsimp only [List.set_cons_zero, List.set_cons_succ, Option.toList_some, Option.toList_none, List.cons_append, List.nil_append]
                          refine AW.loop (pc := 103) (σ := Unit) c (fun k _ => [vR 12 243, vI (nI p), vI (nI f), vI (nI q), vI (nI g), vI (nI c), vI (nI k)]) (fun k _ m1 => (∀ x, x ≠ 269 → m1 x = m x) ∧ ∀ y, y < k → m1 269 y = oI Ω p (f + y)) (fun k _ m1 hk hm1 ih => ?_) 0 () m (Nat.zero_le _) ⟨fun _ _ => rfl, fun y hy => absurd hy (by omega)⟩
                          obtain ⟨g1, g2⟩ := hm1
                          repeat refine AW.s rfl ?_
                          try dsimp only [List.set_cons_zero, List.set_cons_succ, Option.toList_some, Option.toList_none, List.cons_append, List.nil_append]
                          refine AW.b rfl (fun hc => ?_) (fun hc => ?_)
                          · have hlt : k < c := (nI_ltI (by omega) (by omega)).mp hc
                            repeat refine AW.s rfl ?_
                            try dsimp only [List.set_cons_zero, List.set_cons_succ, Option.toList_some, Option.toList_none, List.cons_append, List.nil_append]
                            rw [show (40 : Int32) * nI p = nI (40 * p) from pk_mul 40 p, nI_add, nI_add]
                            refine AW.c rfl (vp_in_nI (by omega) (by decide)) ?_
                            try dsimp only [List.set_cons_zero, List.set_cons_succ, Option.toList_some, Option.toList_none, List.cons_append, List.nil_append]
                            rw [nI_clamp (by omega), show m1 (243 + 25) (40 * p + f + k) = oI Ω p (f + k) by rw [g1 _ (by decide), Nat.add_assoc]; exact s3 _ (by omega)]
                            refine AW.c rfl (⟨vp_in_nI (by omega) (by decide), fun z => absurd z (by decide)⟩) ?_
                            try dsimp only [List.set_cons_zero, List.set_cons_succ, Option.toList_some, Option.toList_none, List.cons_append, List.nil_append]
                            rw [nI_clamp (by omega)]
                            repeat refine AW.u 103 rfl rfl ?_
                            try dsimp only [List.set_cons_zero, List.set_cons_succ, Option.toList_some, Option.toList_none, List.cons_append, List.nil_append]
                            rw [nI_1]
                            refine ih () _ hlt ⟨fun x hx => by rw [mUp_a hx]; exact g1 x hx, fun y hy => ?_⟩
                            by_cases e : y = k
                            · subst e; exact mUp_s _ _ _ _
                            · rw [mUp_n (Or.inr e)]; exact g2 y (by omega)
                          · have : k = c := by
                              have : ¬ k < c := fun z => hc ((nI_ltI (by omega) (by omega)).mpr z)
                              omega
                            subst this
                            repeat refine AW.u 140 rfl rfl ?_
                            try dsimp only [List.set_cons_zero, List.set_cons_succ, Option.toList_some, Option.toList_none, List.cons_append, List.nil_append]
                            refine AW.loop (pc := 140) (σ := Unit) k (fun u _ => [vR 12 243, vI (nI p), vI (nI f), vI (nI q), vI (nI g), vI (nI k), vI (nI u)]) (fun u _ m2 => (∀ x, x ≠ 268 → m2 x = m1 x) ∧ (∀ y, y < u → m2 268 (40 * q + (g + y)) = oI Ω p (f + y)) ∧ ∀ y, (y < 40 * q + g ∨ 40 * q + g + u ≤ y) → m2 268 y = m1 268 y) (fun u _ m2 hu hm2 ih => ?_) 0 () m1 (Nat.zero_le _) ⟨fun _ _ => rfl, fun y hy => absurd hy (by omega), fun _ _ => rfl⟩
                            obtain ⟨k1, k2, k3⟩ := hm2
                            repeat refine AW.s rfl ?_
                            try dsimp only [List.set_cons_zero, List.set_cons_succ, Option.toList_some, Option.toList_none, List.cons_append, List.nil_append]
                            refine AW.b rfl (fun hc => ?_) (fun hc => ?_)
                            · have hlt : u < k := (nI_ltI (by omega) (by omega)).mp hc
                              repeat refine AW.s rfl ?_
                              try dsimp only [List.set_cons_zero, List.set_cons_succ, Option.toList_some, Option.toList_none, List.cons_append, List.nil_append]
                              rw [show (40 : Int32) * nI q = nI (40 * q) from pk_mul 40 q, nI_add, nI_add]
                              refine AW.c rfl (vp_in_nI (by omega) (by decide)) ?_
                              try dsimp only [List.set_cons_zero, List.set_cons_succ, Option.toList_some, Option.toList_none, List.cons_append, List.nil_append]
                              rw [nI_clamp (by omega), show m2 (243 + 26) u = oI Ω p (f + u) by rw [k1 _ (by decide)]; exact g2 u hlt]
                              refine AW.c rfl (⟨vp_in_nI (by omega) (by decide), fun z => absurd z (by decide)⟩) ?_
                              try dsimp only [List.set_cons_zero, List.set_cons_succ, Option.toList_some, Option.toList_none, List.cons_append, List.nil_append]
                              rw [nI_clamp (by omega)]
                              repeat refine AW.u 140 rfl rfl ?_
                              try dsimp only [List.set_cons_zero, List.set_cons_succ, Option.toList_some, Option.toList_none, List.cons_append, List.nil_append]
                              rw [nI_1]
                              refine ih () _ hlt ⟨fun x hx => by rw [mUp_a hx]; exact k1 x hx, fun y hy => ?_, fun y hy => by rw [mUp_n (Or.inr (by omega))]; exact k3 y (by omega)⟩
                              by_cases e : y = u
                              · subst e; rw [← Nat.add_assoc]; exact mUp_s _ _ _ _
                              · rw [mUp_n (Or.inr (by omega))]; exact k2 y (by omega)
                            · have : u = k := by
                                have : ¬ u < k := fun z => hc ((nI_ltI (by omega) (by omega)).mpr z)
                                omega
                              subst this
                              have gg : ∀ x, x ≠ 268 → x ≠ 269 → m2 x = m x := fun x x1 x2 => by rw [k1 x x1, g1 x x2]
                              repeat refine AW.s rfl ?_
                              try dsimp only [List.set_cons_zero, List.set_cons_succ, Option.toList_some, Option.toList_none, List.cons_append, List.nil_append]
                              refine AW.ri rfl rfl rfl ⟨rfl, hI.s hW ?_ ?_ (fun y hy => ?_) (fun y _ => by rw [gg 266 (by decide) (by decide)]) (fun y _ => by rw [gg 267 (by decide) (by decide)]) (fun y hy => by rw [k3 y (by omega), g1 268 (by decide)]) (fun x hx => gg x (by omega) (by omega)) (fun x hx => by rw [gg 243 (by decide) (by decide)]), fun x hx => gg x (by omega) (by omega)⟩
                              · rw [gg 266 (by decide) (by decide)]; exact t1
                              · rw [gg 267 (by decide) (by decide)]; exact t2
                              · by_cases e : g ≤ y ∧ y < g + u
                                · rw [pk_cpy_in e.1 e.2, show 40 * q + y = 40 * q + (g + (y - g)) by omega]
                                  exact k2 (y - g) (by omega)
                                · rw [pk_cpy_out (by omega), k3 _ (by omega), g1 268 (by decide)]
                                  exact t3 y hy
              · have q5 := hc
                rw [cif_f q5] at e0
                rw [e0]
                repeat refine AW.s rfl ?_
                try dsimp only [List.set_cons_zero, List.set_cons_succ, Option.toList_some, Option.toList_none, List.cons_append, List.nil_append]
                exact AW.ri rfl rfl rfl ⟨rfl, hI, KM.rf⟩
      · have e0 : copyF Ω a i b j n = (-2, Ω) := by unfold copyF; rw [cif_f (fun q => q2 q.2)]
        rw [wB_0 q2, e0]
        refine AW.b rfl (fun hc => ?_) (fun hc => ?_)
        · repeat refine AW.s rfl ?_
          try dsimp only [List.set_cons_zero, List.set_cons_succ, Option.toList_some, Option.toList_none, List.cons_append, List.nil_append]
          exact AW.ri rfl rfl rfl ⟨rfl, hI, KM.rf⟩
        · exact absurd rfl hc
  · have e0 : copyF Ω a i b j n = (-2, Ω) := by unfold copyF; rw [cif_f (fun q => q1 q.1)]
    rw [wB_0 q1, e0]
    refine AW.b rfl (fun hc => ?_) (fun hc => ?_)
    · repeat refine AW.s rfl ?_
      try dsimp only [List.set_cons_zero, List.set_cons_succ, Option.toList_some, Option.toList_none, List.cons_append, List.nil_append]
      exact AW.ri rfl rfl rfl ⟨rfl, hI, KM.rf⟩
    · exact absurd rfl hc
theorem long3 {fr : Int32} {k : Nat} (hk : k ≤ 100) : (fr.toInt64 + 3 * (nI k).toInt64).toInt = fr.toInt + 3 * (k : Int) := by
  have h1 := Int32.toInt_lt fr
  have h2 := Int32.le_toInt fr
  have e2 : (3 * (nI k).toInt64 : Int64).toInt = 3 * (k : Int) := by
    rw [Int64.toInt_mul, Int32.toInt_toInt64, nI_toInt (by omega), show (3 : Int64).toInt = 3 from rfl]
    exact Int.bmod_eq_of_le (by omega) (by omega)
  rw [Int64.toInt_add, e2, Int32.toInt_toInt64]
  exact Int.bmod_eq_of_le (by omega) (by omega)
/-- what the model asks of a place, by longs, is what the class asks -/
theorem long_ho {z k : Nat} {fr : Int32} (hz : z ≤ 40) (hk : k ≤ 10) (h : k = 0 ∨ ∃ f, f ≤ 40 ∧ fr = nI f) : (¬ fr.toInt64 + 3 * (nI k).toInt64 < 0 ∧ fr.toInt64 + 3 * (nI k).toInt64 + 2 < (nI z).toInt64) ↔ hoB z (fr + 3 * nI k) 3 = 1 := by
  have hl := long3 (fr := fr) (k := k) (by omega)
  have h1 := Int32.toInt_lt fr
  have h2 := Int32.le_toInt fr
  have e2 : (fr.toInt64 + 3 * (nI k).toInt64 + 2 : Int64).toInt = fr.toInt + 3 * (k : Int) + 2 := by
    rw [Int64.toInt_add, hl, show (2 : Int64).toInt = 2 from rfl]
    exact Int.bmod_eq_of_le (by omega) (by omega)
  rw [Int64.lt_iff_toInt_lt, Int64.lt_iff_toInt_lt, e2, hl, Int32.toInt_toInt64, nI_toInt (by omega), show (0 : Int64).toInt = 0 from rfl, hoB_1 (by omega)]
  rcases h with rfl | ⟨f, hf, rfl⟩
  · rw [show fr + 3 * nI 0 = fr by show fr + 3 * 0 = fr; simp]
    constructor
    · rintro ⟨x1, x2⟩
      obtain ⟨j, hj, rfl⟩ := nI_of (x := fr) (fun q => x1 (by have := Int32.lt_iff_toInt_lt.mp q; have e : (0 : Int32).toInt = 0 := rfl; omega))
      rw [nI_toInt hj] at x2
      exact ⟨j, 3, rfl, rfl, by omega⟩
    · rintro ⟨j, c, rfl, ec, hjc⟩
      have := (nI_eq (a := 3) (by decide) (by omega)).mp ec
      rw [nI_toInt (by omega)]
      omega
  · rw [nI_toInt (by omega), show nI f + 3 * nI k = nI (f + 3 * k) by rw [show (3 : Int32) * nI k = nI (3 * k) from pk_mul 3 k, nI_add]]
    constructor
    · rintro ⟨x1, x2⟩
      exact ⟨f + 3 * k, 3, rfl, rfl, by omega⟩
    · rintro ⟨j, c, ej, ec, hjc⟩
      have := (nI_eq (a := 3) (by decide) (by omega)).mp ec
      have := (nI_eq (by omega) (by omega)).mp ej
      omega
theorem M_rules {a s fr n : Int32} (hd : 7 ≤ d) (hW : WO Ω) (hI : InvM m Ω) : Meth l X d M_X11_rules [vR 12 243, vI a, vI s, vI fr, vI n] m (fun r m' => r = some (vI (rulesF Ω a s fr n).1) ∧ InvM m' (rulesF Ω a s fr n).2 ∧ KM m m') := by
  obtain ⟨d, rfl⟩ : ∃ e, d = e + 1 := ⟨d - 1, by omega⟩
  have hbad : ¬ (wB a 3 = 1 ∧ wB s 2 = 1 ∧ wB n 6 = 1) → AW (GM l X (d + 1) M_X11_rules (fun r m' => r = some (vI (rulesF Ω a s fr n).1) ∧ InvM m' (rulesF Ω a s fr n).2 ∧ KM m m')) 27 [vR 12 243, vI a, vI s, vI fr, vI n, vU, vU, vU, vU, vU] [] m := by
    intro hn
    have e0 : rulesF Ω a s fr n = (-2, Ω) := by unfold rulesF; rw [cif_f hn]
    rw [e0]
    repeat refine AW.s rfl ?_
    try dsimp only [List.set_cons_zero, List.set_cons_succ, Option.toList_some, Option.toList_none, List.cons_append, List.nil_append]
    exact AW.ri rfl rfl rfl ⟨rfl, hI, KM.rf⟩
  refine E_X11_rules (ls := [vR 12 243, vI a, vI s, vI fr, vI n, vU, vU, vU, vU, vU]) rfl rfl ?_
  repeat refine AW.s rfl ?_
  try dsimp only [List.set_cons_zero, List.set_cons_succ, Option.toList_some, Option.toList_none, List.cons_append, List.nil_append]
  refine AW.S k_11_14 ((c_MisSheet (by omega))) rfl rfl rfl rfl (fun r1 m9 hq => ?_)
  obtain ⟨rfl, hm9⟩ := hq
  rw [hm9]
  try dsimp only [List.set_cons_zero, List.set_cons_succ, Option.toList_some, Option.toList_none, List.cons_append, List.nil_append]
  by_cases q1 : wB a 3 = 1
  · rw [q1]
    refine AW.b rfl (fun hc => ?_) (fun hc => ?_)
    · exact absurd hc (by decide)
    · repeat refine AW.s rfl ?_
      try dsimp only [List.set_cons_zero, List.set_cons_succ, Option.toList_some, Option.toList_none, List.cons_append, List.nil_append]
      refine AW.S k_11_7 (c_in0) rfl rfl rfl rfl (fun r1 m8 hq => ?_)
      obtain ⟨rfl, hm8⟩ := hq
      rw [hm8]
      try dsimp only [List.set_cons_zero, List.set_cons_succ, Option.toList_some, Option.toList_none, List.cons_append, List.nil_append]
      by_cases q23 : wB s 2 = 1
      · rw [q23]
        refine AW.b rfl (fun hc => ?_) (fun hc => ?_)
        · exact absurd hc (by decide)
        · repeat refine AW.s rfl ?_
          try dsimp only [List.set_cons_zero, List.set_cons_succ, Option.toList_some, Option.toList_none, List.cons_append, List.nil_append]
          refine AW.S k_11_7 (c_in0) rfl rfl rfl rfl (fun r1 m7 hq => ?_)
          obtain ⟨rfl, hm7⟩ := hq
          rw [hm7]
          try dsimp only [List.set_cons_zero, List.set_cons_succ, Option.toList_some, Option.toList_none, List.cons_append, List.nil_append]
          by_cases q4 : wB n 6 = 1
          · rw [q4]
            obtain ⟨i, hi, rfl⟩ := (wB_1 (n := 3) (by decide)).mp q1
            obtain ⟨N, hN, rfl⟩ := (wB_1 (n := 6) (by decide)).mp q4
            have e0 : rulesF Ω (nI i) s fr (nI N) = cif (oS Ω i = -1) (-11, Ω) (cif (oS Ω i = s) (rulG i fr N 0 0 Ω) (-13, Ω)) := by
              unfold rulesF
              rw [cif_t ⟨q1, q23, q4⟩, nI_clamp (by omega), nI_clamp (by omega)]
            obtain ⟨s1, s2, s3⟩ := hI.2.2.2.2.2.2.2.1 i (by omega)
            have hsh := hW.2.2.2.2.2.2 i (by omega)
            have hz := hsh.le
            refine AW.b rfl (fun hc => ?_) (fun hc => ?_)
            · exact absurd hc (by decide)
            · repeat refine AW.s rfl ?_
              try dsimp only [List.set_cons_zero, List.set_cons_succ, Option.toList_some, Option.toList_none, List.cons_append, List.nil_append]
              refine AW.c rfl (vp_in_nI (by omega) (by decide)) ?_
              try dsimp only [List.set_cons_zero, List.set_cons_succ, Option.toList_some, Option.toList_none, List.cons_append, List.nil_append]
              rw [nI_clamp (by omega), show m (243 + 23) i = oS Ω i from s1]
              refine AW.b rfl (fun hc => ?_) (fun hc => ?_)
              · have q5 := (sort_lt hsh).mp hc
                rw [cif_t q5] at e0
                rw [e0]
                repeat refine AW.s rfl ?_
                try dsimp only [List.set_cons_zero, List.set_cons_succ, Option.toList_some, Option.toList_none, List.cons_append, List.nil_append]
                exact AW.ri rfl rfl rfl ⟨rfl, hI, KM.rf⟩
              · have q5 : ¬ oS Ω i = -1 := fun z => hc ((sort_lt hsh).mpr z)
                rw [cif_f q5] at e0
                repeat refine AW.s rfl ?_
                try dsimp only [List.set_cons_zero, List.set_cons_succ, Option.toList_some, Option.toList_none, List.cons_append, List.nil_append]
                refine AW.c rfl (vp_in_nI (by omega) (by decide)) ?_
                try dsimp only [List.set_cons_zero, List.set_cons_succ, Option.toList_some, Option.toList_none, List.cons_append, List.nil_append]
                rw [nI_clamp (by omega), show m (243 + 23) i = oS Ω i from s1]
                repeat refine AW.s rfl ?_
                try dsimp only [List.set_cons_zero, List.set_cons_succ, Option.toList_some, Option.toList_none, List.cons_append, List.nil_append]
                refine AW.b rfl (fun hc => ?_) (fun hc => ?_)
                · have q6 := hc
                  rw [cif_t q6] at e0
                  rw [e0]
                  repeat refine AW.u 61 rfl rfl ?_
                  try dsimp only [List.set_cons_zero, List.set_cons_succ, Option.toList_some, Option.toList_none, List.cons_append, List.nil_append]
                  refine AW.loop (pc := 61) (σ := Nat × OM) N (fun k st => [vR 12 243, vI (nI i), vI s, vI fr, vI (nI N), vI (nI st.1), vI (nI k), vU, vU, vU]) (fun k st m1 => WO st.2 ∧ InvM m1 st.2 ∧ st.2.2 = Ω.2 ∧ KM m m1 ∧ st.1 ≤ k ∧ (k = 0 ∨ ∃ f, f ≤ 40 ∧ fr = nI f) ∧ rulG i fr N 0 0 Ω = rulG i fr (N - k) k st.1 st.2) (fun k st m1 hk hm1 ih => ?_) 0 (0, Ω) m (Nat.zero_le _) ⟨hW, hI, rfl, KM.rf, Nat.le_refl _, Or.inl rfl, rfl⟩
                  obtain ⟨c, Ω1⟩ := st
                  obtain ⟨g1, g2, g3, g4, g5, g6, g7⟩ := hm1
                  have g1 : WO Ω1 := g1
                  have g2 : InvM m1 Ω1 := g2
                  have g3 : Ω1.2 = Ω.2 := g3
                  have g5 : c ≤ k := g5
                  have g7 : rulG i fr N 0 0 Ω = rulG i fr (N - k) k c Ω1 := g7
                  have hsh1 : ∀ x, Ω1.2.2.1 x = Ω.2.2.1 x := fun x => by rw [g3]
                  have hoz : oZ Ω1 i = oZ Ω i := by unfold oZ; rw [hsh1]
                  have hoi : oI Ω1 i = oI Ω i := by unfold oI; rw [hsh1]
                  obtain ⟨u1, u2, u3⟩ := g2.2.2.2.2.2.2.2.1 i (by omega)
                  repeat refine AW.s rfl ?_
                  try dsimp only [List.set_cons_zero, List.set_cons_succ, Option.toList_some, Option.toList_none, List.cons_append, List.nil_append]
                  refine AW.b rfl (fun hc => ?_) (fun hc => ?_)
                  · have hlt : k < N := (nI_ltI (by omega) (by omega)).mp hc
                    obtain ⟨f, hff⟩ : ∃ f, N - k = f + 1 := ⟨N - k - 1, by omega⟩
                    have hNk : N - (k + 1) = f := by omega
                    have hkk : k ≤ k + 1 := by omega
                    rw [hff, rulG_s] at g7
                    have hlh := long_ho (z := oZ Ω1 i) (k := k) (fr := fr) (by rw [hoz]; omega) (by omega) g6
                    have out : ¬ hoB (oZ Ω1 i) (fr + 3 * nI k) 3 = 1 → AW (GM l X (d + 1) M_X11_rules (fun r m' => r = some (vI (rulG i fr N 0 0 Ω).1) ∧ InvM m' (rulG i fr N 0 0 Ω).2 ∧ KM m m')) 104 [vR 12 243, vI (nI i), vI s, vI fr, vI (nI N), vI (nI c), vI (nI k), vJ (fr.toInt64 + 3 * (nI k).toInt64), vU, vU] [] m1 := by
                      intro hn
                      rw [cif_f hn] at g7
                      rw [g7]
                      repeat refine AW.s rfl ?_
                      try dsimp only [List.set_cons_zero, List.set_cons_succ, Option.toList_some, Option.toList_none, List.cons_append, List.nil_append]
                      exact AW.ri rfl rfl rfl ⟨rfl, g2, g4⟩
                    repeat refine AW.s rfl ?_
                    try dsimp only [List.set_cons_zero, List.set_cons_succ, Option.toList_some, Option.toList_none, List.cons_append, List.nil_append]
                    refine AW.b rfl (fun hc => ?_) (fun hc => ?_)
                    · have z := (lg_cmp_lt _ _).mp hc
                      exact out (fun w => (hlh.mpr w).1 z)
                    · have z0 : ¬ fr.toInt64 + 3 * (nI k).toInt64 < 0 := fun w => hc ((lg_cmp_lt _ _).mpr w)
                      repeat refine AW.s rfl ?_
                      try dsimp only [List.set_cons_zero, List.set_cons_succ, Option.toList_some, Option.toList_none, List.cons_append, List.nil_append]
                      refine AW.c rfl (vp_in_nI (by omega) (by decide)) ?_
                      try dsimp only [List.set_cons_zero, List.set_cons_succ, Option.toList_some, Option.toList_none, List.cons_append, List.nil_append]
                      rw [nI_clamp (by omega), show m1 (243 + 24) i = nI (oZ Ω1 i) from u2]
                      repeat refine AW.s rfl ?_
                      try dsimp only [List.set_cons_zero, List.set_cons_succ, Option.toList_some, Option.toList_none, List.cons_append, List.nil_append]
                      refine AW.b rfl (fun hc => ?_) (fun hc => ?_)
                      · have z1 := (lg_cmp_lt _ _).mp hc
                        have q7 : hoB (oZ Ω1 i) (fr + 3 * nI k) 3 = 1 := hlh.mp ⟨z0, z1⟩
                        rw [cif_t q7] at g7
                        obtain ⟨F, c3, eF, ec3, hF⟩ := (hoB_1 (by rw [hoz]; omega)).mp q7
                        have hc3 : c3 = 3 := by
                          have := (nI_eq (a := 3) (by decide) (by omega)).mp ec3
                          omega
                        subst hc3
                        rw [hoz] at hF
                        have hfr : ∃ f, f ≤ 40 ∧ fr = nI f := by
                          rcases g6 with rfl | g6
                          · exact ⟨F, by omega, by rw [← eF]; show fr = fr + 3 * 0; simp⟩
                          · exact g6
                        obtain ⟨φ, hφ, rfl⟩ := hfr
                        have eF2 : nI φ + 3 * nI k = nI (φ + 3 * k) := by rw [show (3 : Int32) * nI k = nI (3 * k) from pk_mul 3 k, nI_add]
                        have hFF : F = φ + 3 * k := by
                          rw [eF2] at eF
                          exact ((nI_eq (by omega) (by omega)).mp eF).symm
                        subst hFF
                        rw [nI_clamp (show φ < 2 ^ 31 by omega)] at g7
                        have eJ : ((nI φ).toInt64 + 3 * (nI k).toInt64).toInt32 = nI (φ + 3 * k) := by
                          apply Int32.toInt_inj.1
                          rw [Int64.toInt_toInt32, long3 (by omega), nI_toInt (by omega), nI_toInt (by omega)]
                          have : ((φ + 3 * k : Nat) : Int) = (φ : Int) + 3 * (k : Int) := by omega
                          rw [this]
                          exact Int.bmod_eq_of_le (by omega) (by omega)
                        repeat refine AW.s rfl ?_
                        try dsimp only [List.set_cons_zero, List.set_cons_succ, Option.toList_some, Option.toList_none, List.cons_append, List.nil_append]
                        rw [eJ, show (40 : Int32) * nI i = nI (40 * i) from pk_mul 40 i, nI_add]
                        refine AW.c rfl (vp_in_nI (by omega) (by decide)) ?_
                        try dsimp only [List.set_cons_zero, List.set_cons_succ, Option.toList_some, Option.toList_none, List.cons_append, List.nil_append]
                        rw [nI_clamp (by omega)]
                        repeat refine AW.s rfl ?_
                        try dsimp only [List.set_cons_zero, List.set_cons_succ, Option.toList_some, Option.toList_none, List.cons_append, List.nil_append]
                        rw [nI_1]
                        refine AW.c rfl (vp_in_nI (by omega) (by decide)) ?_
                        try dsimp only [List.set_cons_zero, List.set_cons_succ, Option.toList_some, Option.toList_none, List.cons_append, List.nil_append]
                        rw [nI_clamp (by omega)]
                        repeat refine AW.s rfl ?_
                        try dsimp only [List.set_cons_zero, List.set_cons_succ, Option.toList_some, Option.toList_none, List.cons_append, List.nil_append]
                        rw [show nI (40 * i + (φ + 3 * k)) + 2 = nI (40 * i + (φ + 3 * k) + 2) from nI_add _ 2]
                        refine AW.c rfl (vp_in_nI (by omega) (by decide)) ?_
                        try dsimp only [List.set_cons_zero, List.set_cons_succ, Option.toList_some, Option.toList_none, List.cons_append, List.nil_append]
                        rw [nI_clamp (by omega), show m1 (243 + 25) (40 * i + (φ + 3 * k)) = oI Ω1 i (φ + 3 * k) from u3 _ (by rw [hoz]; omega), show m1 (243 + 25) (40 * i + (φ + 3 * k) + 1) = oI Ω1 i (φ + 3 * k + 1) from u3 (φ + 3 * k + 1) (by rw [hoz]; omega), show m1 (243 + 25) (40 * i + (φ + 3 * k) + 2) = oI Ω1 i (φ + 3 * k + 2) from u3 (φ + 3 * k + 2) (by rw [hoz]; omega)]
                        repeat refine AW.s rfl ?_
                        try dsimp only [List.set_cons_zero, List.set_cons_succ, Option.toList_some, Option.toList_none, List.cons_append, List.nil_append]
                        refine AW.V k_11_324 ((M_rule (by omega) g1 g2)) rfl rfl rfl rfl rfl rfl (fun r1 m5 hq => ?_)
                        obtain ⟨rfl, p1, p2⟩ := hq
                        have W2 := g1.rule (oI Ω1 i (φ + 3 * k)) (oI Ω1 i (φ + 3 * k + 1)) (oI Ω1 i (φ + 3 * k + 2))
                        have E2 := ruleF_2 Ω1 (oI Ω1 i (φ + 3 * k)) (oI Ω1 i (φ + 3 * k + 1)) (oI Ω1 i (φ + 3 * k + 2))
                        try dsimp only [List.set_cons_zero, List.set_cons_succ, Option.toList_some, Option.toList_none, List.cons_append, List.nil_append]
                        refine AW.b rfl (fun hc => ?_) (fun hc => ?_)
                        · rw [if_pos hc] at g7
                          repeat refine AW.u 61 rfl rfl ?_
                          try dsimp only [List.set_cons_zero, List.set_cons_succ, Option.toList_some, Option.toList_none, List.cons_append, List.nil_append]
                          refine AW.fg 7 ?_
                          refine AW.fg 9 ?_
                          try dsimp only [List.set_cons_zero, List.set_cons_succ, Option.toList_some, Option.toList_none, List.cons_append, List.nil_append]
                          rw [nI_1, show nI c + 0 = nI (c + 0) from nI_add c 0]
                          exact ih (c + 0, _) m5 hlt ⟨W2, p1, E2.trans g3, g4.tr p2, Nat.le_trans g5 hkk, Or.inr ⟨φ, hφ, rfl⟩, by rw [hNk]; exact g7⟩
                        · rw [if_neg hc] at g7
                          repeat refine AW.u 61 rfl rfl ?_
                          try dsimp only [List.set_cons_zero, List.set_cons_succ, Option.toList_some, Option.toList_none, List.cons_append, List.nil_append]
                          refine AW.fg 7 ?_
                          refine AW.fg 9 ?_
                          try dsimp only [List.set_cons_zero, List.set_cons_succ, Option.toList_some, Option.toList_none, List.cons_append, List.nil_append]
                          rw [nI_1, nI_1]
                          exact ih (c + 1, _) m5 hlt ⟨W2, p1, E2.trans g3, g4.tr p2, Nat.succ_le_succ g5, Or.inr ⟨φ, hφ, rfl⟩, by rw [hNk]; exact g7⟩
                      · exact out (fun w => hc ((lg_cmp_lt _ _).mpr (hlh.mpr w).2))
                  · have : k = N := by
                      have : ¬ k < N := fun q => hc ((nI_ltI (by omega) (by omega)).mpr q)
                      omega
                    subst this
                    rw [Nat.sub_self] at g7
                    have g7 : rulG i fr k 0 0 Ω = (nI c, Ω1) := g7
                    rw [g7]
                    repeat refine AW.s rfl ?_
                    try dsimp only [List.set_cons_zero, List.set_cons_succ, Option.toList_some, Option.toList_none, List.cons_append, List.nil_append]
                    exact AW.ri rfl rfl rfl ⟨rfl, g2, g4⟩
                · have q6 := hc
                  rw [cif_f q6] at e0
                  rw [e0]
                  repeat refine AW.s rfl ?_
                  try dsimp only [List.set_cons_zero, List.set_cons_succ, Option.toList_some, Option.toList_none, List.cons_append, List.nil_append]
                  exact AW.ri rfl rfl rfl ⟨rfl, hI, KM.rf⟩
          · rw [wB_0 q4]
            refine AW.b rfl (fun hc => ?_) (fun hc => ?_)
            · exact hbad (fun q => q4 q.2.2)
            · exact absurd rfl hc
      · rw [wB_0 q23]
        refine AW.b rfl (fun hc => ?_) (fun hc => ?_)
        · exact hbad (fun q => q23 q.2.1)
        · exact absurd rfl hc
  · rw [wB_0 q1]
    refine AW.b rfl (fun hc => ?_) (fun hc => ?_)
    · exact hbad (fun q => q1 q.1)
    · exact absurd rfl hc
end
