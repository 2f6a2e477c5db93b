-- ===== the class's parser: a method for each row of the grammar =====
theorem PXf.at1 {m m1 : Mem} {T s : Nat} (h : PXf m m1 T s) {v : Nat} (h1 : m 41 1 = nI v) : m1 41 1 = nI v := by rw [h.2.1 1 (by decide) (by decide)]; exact h1
theorem tl_dr {ts : List TK} {i : Nat} : (ts.drop i).tail = ts.drop (i + 1) := List.tail_drop
theorem no1 : ∀ {P Q : Prop}, P → ¬ P → Q := fun h n => absurd h n
theorem c_readTerm {l : Launch} {X : XT} {d t o : Nat} {ts : List TK} {P : List TK → PR} (hd : 1 ≤ d) (ht : t < 6) (hE : EOK ts) (hsub : RDC l X t ts M_X2_readOne P o d) : RDC l X t ts M_X2_readTerm (seqP opT P) o (d + 1) := by
  intro m i s b hP hi hbs hsi
  refine E_X2_readTerm (ls := [vR 3 41, vU, vU]) rfl rfl ?_
  repeat refine AW.s rfl ?_
  try dsimp only [List.set_cons_zero, List.set_cons_succ, Option.toList_some, Option.toList_none, List.cons_append, List.nil_append]
  refine AW.V k_2_101 ((hsub m i s b hP hi hbs hsi)) rfl rfl rfl rfl rfl rfl (fun r1 m1 hq => ?_)
  obtain ⟨c, rfl, hp⟩ := hq
  repeat refine AW.u 7 rfl rfl ?_
  try dsimp only [List.set_cons_zero, List.set_cons_succ, Option.toList_some, Option.toList_none, List.cons_append, List.nil_append]
  refine AW.loop (pc := 7) (σ := Int32 × PR) 160 (fun j st => [vR 3 41, vI st.1, vI (nI j)]) (fun j st m1 => PPo m (199 + 6 * t) ts i o s b st.2 st.1 m1 ∧ seqP opT P (ts.drop i) = lpP opT P (160 - j) st.2) (fun j st m1 hj hm1 ih => ?_) 0 (c, P (ts.drop i)) m1 (Nat.zero_le _) ⟨hp, rfl⟩
  obtain ⟨c, q⟩ := st
  obtain ⟨g1, g2⟩ := hm1
  have g1 : PPo m (199 + 6 * t) ts i o s b q c m1 := g1
  have g2 : seqP opT P (ts.drop i) = lpP opT P (160 - j) q := g2
  have hend : seqP opT P (ts.drop i) = q → AW (GM l X (d + 1) M_X2_readTerm (fun r m' => ∃ c, r = some (vI c) ∧ PPo m (199 + 6 * t) ts i o s b (seqP opT P (ts.drop i)) c m')) 46 [vR 3 41, vI c, vI (nI j)] [] m1 := by
    intro he
    rw [he]
    repeat refine AW.s rfl ?_
    try dsimp only [List.set_cons_zero, List.set_cons_succ, Option.toList_some, Option.toList_none, List.cons_append, List.nil_append]
    exact AW.ri rfl rfl rfl ⟨c, rfl, g1⟩
  repeat refine AW.s rfl ?_
  try dsimp only [List.set_cons_zero, List.set_cons_succ, Option.toList_some, Option.toList_none, List.cons_append, List.nil_append]
  refine AW.b rfl (fun hc => ?_) (fun hc => ?_)
  · have hlt : j < 160 := (nI_ltI (b := 160) (by omega) (by decide)).mp hc
    obtain ⟨n, hn⟩ : ∃ n, 160 - j = n + 1 := ⟨160 - j - 1, by omega⟩
    have hn1 : 160 - (j + 1) = n := by omega
    repeat refine AW.s rfl ?_
    try dsimp only [List.set_cons_zero, List.set_cons_succ, Option.toList_some, Option.toList_none, List.cons_append, List.nil_append]
    refine AW.b rfl (fun hc => ?_) (fun hc => ?_)
    · have hc1 := hc
      rcases g1 with ⟨i1, rfl, -, -⟩ | ⟨e, i1, s1, rfl, hcc, h1⟩
      · exact hend (by rw [g2, lpP_n])
      · have hle := h1.2.1
        have hlE := hE.1
        have := h1.2.2.2.1
        exact absurd (hcc.symm.trans hc1) (nI_m1 (by omega))
    · have hc1 := hc
      rcases g1 with ⟨i1, rfl, hcc, -⟩ | ⟨e, i1, s1, rfl, hcc, h1⟩
      · exact absurd hcc hc1
      · have h1' := h1
        obtain ⟨a1, a2, a3, a4, a5, a6, a7⟩ := h1'
        have hlE := hE.1
        repeat refine AW.s rfl ?_
        try dsimp only [List.set_cons_zero, List.set_cons_succ, Option.toList_some, Option.toList_none, List.cons_append, List.nil_append]
        refine AW.V k_2_60 ((c_take (k := 42) hd a6 hE a2)) rfl rfl rfl rfl rfl rfl (fun r1 m2 hq => ?_)
        rcases hq with ⟨hk1, rfl, hm2⟩ | ⟨hk1, rfl, hm2⟩
        · rw [hm2]
          try dsimp only [List.set_cons_zero, List.set_cons_succ, Option.toList_some, Option.toList_none, List.cons_append, List.nil_append]
          have hop : opT (hk (ts.drop i1)) = some 9 := by rw [hk1]; rfl
          have hnx : i1 + 1 < ts.length := hk_nx hE a2 (by rw [hk1]; decide)
          rw [hn, lpP_s hop, tl_dr] at g2
          refine AW.b rfl (fun hc => ?_) (fun hc => ?_)
          · exact absurd hc (by decide)
          · repeat refine AW.s rfl ?_
            try dsimp only [List.set_cons_zero, List.set_cons_succ, Option.toList_some, Option.toList_none, List.cons_append, List.nil_append]
            refine AW.V k_2_101 ((hsub _ (i1 + 1) s1 b (a6.at (by omega) (i1 + 1)).1 hnx (by omega) (by omega))) rfl rfl rfl rfl rfl rfl (fun r1 m3 hq => ?_)
            obtain ⟨c2, rfl, hp2⟩ := hq
            have fA := a5.tr (a6.at (by omega) (i1 + 1)).2 (Nat.le_of_lt a3)
            rcases hp2 with ⟨i2, hq2, rfl, f1, f2, f3⟩ | ⟨e2, i2, s2, hq2, rfl, h2⟩
            · rw [hq2] at g2
              try dsimp only [List.set_cons_zero, List.set_cons_succ, Option.toList_some, Option.toList_none, List.cons_append, List.nil_append]
              refine AW.V k_2_78 ((c_joined (s := 0) (t := t) hd ht ((fA.tr f3 (Nat.le_of_lt a3)).at1 hP.2.1) (Or.inl rfl))) rfl rfl rfl rfl rfl rfl (fun r1 m4 hq => ?_)
              rcases hq with ⟨-, rfl, hm4⟩ | ⟨hne, -, -⟩
              · rw [hm4]
                repeat refine AW.u 7 rfl rfl ?_
                try dsimp only [List.set_cons_zero, List.set_cons_succ, Option.toList_some, Option.toList_none, List.cons_append, List.nil_append]
                rw [nI_1]
                exact ih (-1, (none, ts.drop i2)) m3 hlt ⟨Or.inl ⟨i2, rfl, rfl, f1, f2, fA.tr f3 (Nat.le_of_lt a3)⟩, by rw [hn1]; exact g2⟩
              · exact absurd rfl hne
            · rw [hq2] at g2
              have h2' := h2
              obtain ⟨b1, b2, b3, b4, b5, b6, b7⟩ := h2'
              try dsimp only [List.set_cons_zero, List.set_cons_succ, Option.toList_some, Option.toList_none, List.cons_append, List.nil_append]
              refine AW.V k_2_78 ((c_joined (s := s2) (t := t) hd ht b6.2.1 (Or.inr ⟨b6.2.2.2.2.2.1, by omega⟩))) rfl rfl rfl rfl rfl rfl (fun r1 m4 hq => ?_)
              rcases hq with ⟨hz, -, -⟩ | ⟨-, rfl, hm4⟩
              · exact absurd hz (nI_m1 (by omega))
              · rw [hm4, hcc]
                repeat refine AW.u 7 rfl rfl ?_
                try dsimp only [List.set_cons_zero, List.set_cons_succ, Option.toList_some, Option.toList_none, List.cons_append, List.nil_append]
                rw [nI_1]
                exact ih (nI s2, (some (fun F => bopV 9 (e F) (e2 F)), ts.drop i2)) _ hlt ⟨Or.inr ⟨_, i2, s2 + 1, rfl, rfl, PSuc.bin ht hE hsi hbs (by decide) h1 h2⟩, by rw [hn1]; exact g2⟩
        · rw [hm2]
          try dsimp only [List.set_cons_zero, List.set_cons_succ, Option.toList_some, Option.toList_none, List.cons_append, List.nil_append]
          have hop : opT (hk (ts.drop i1)) = none := if_neg hk1
          refine AW.b rfl (fun hc => ?_) (fun hc => ?_)
          · exact hend (by rw [g2, lpP_e hop])
          · exact absurd rfl hc
  · have : j = 160 := by
      have : ¬ j < 160 := fun q => hc (nI_lt (b := 160) q (by decide))
      omega
    subst this
    exact hend g2
theorem c_readAnd {l : Launch} {X : XT} {d t o : Nat} {ts : List TK} {P : List TK → PR} (hd : 1 ≤ d) (ht : t < 6) (hE : EOK ts) (hsub : RDC l X t ts M_X2_readNot P o d) : RDC l X t ts M_X2_readAnd (seqP opA P) o (d + 1) := by
  intro m i s b hP hi hbs hsi
  refine E_X2_readAnd (ls := [vR 3 41, vU, vU]) rfl rfl ?_
  repeat refine AW.s rfl ?_
  try dsimp only [List.set_cons_zero, List.set_cons_succ, Option.toList_some, Option.toList_none, List.cons_append, List.nil_append]
  refine AW.V k_2_81 ((hsub m i s b hP hi hbs hsi)) rfl rfl rfl rfl rfl rfl (fun r1 m1 hq => ?_)
  obtain ⟨c, rfl, hp⟩ := hq
  repeat refine AW.u 7 rfl rfl ?_
  try dsimp only [List.set_cons_zero, List.set_cons_succ, Option.toList_some, Option.toList_none, List.cons_append, List.nil_append]
  refine AW.loop (pc := 7) (σ := Int32 × PR) 160 (fun j st => [vR 3 41, vI st.1, vI (nI j)]) (fun j st m1 => PPo m (199 + 6 * t) ts i o s b st.2 st.1 m1 ∧ seqP opA P (ts.drop i) = lpP opA P (160 - j) st.2) (fun j st m1 hj hm1 ih => ?_) 0 (c, P (ts.drop i)) m1 (Nat.zero_le _) ⟨hp, rfl⟩
  obtain ⟨c, q⟩ := st
  obtain ⟨g1, g2⟩ := hm1
  have g1 : PPo m (199 + 6 * t) ts i o s b q c m1 := g1
  have g2 : seqP opA P (ts.drop i) = lpP opA P (160 - j) q := g2
  have hend : seqP opA P (ts.drop i) = q → AW (GM l X (d + 1) M_X2_readAnd (fun r m' => ∃ c, r = some (vI c) ∧ PPo m (199 + 6 * t) ts i o s b (seqP opA P (ts.drop i)) c m')) 45 [vR 3 41, vI c, vI (nI j)] [] m1 := by
    intro he
    rw [he]
    repeat refine AW.s rfl ?_
    try dsimp only [List.set_cons_zero, List.set_cons_succ, Option.toList_some, Option.toList_none, List.cons_append, List.nil_append]
    exact AW.ri rfl rfl rfl ⟨c, rfl, g1⟩
  repeat refine AW.s rfl ?_
  try dsimp only [List.set_cons_zero, List.set_cons_succ, Option.toList_some, Option.toList_none, List.cons_append, List.nil_append]
  refine AW.b rfl (fun hc => ?_) (fun hc => ?_)
  · have hlt : j < 160 := (nI_ltI (b := 160) (by omega) (by decide)).mp hc
    obtain ⟨n, hn⟩ : ∃ n, 160 - j = n + 1 := ⟨160 - j - 1, by omega⟩
    have hn1 : 160 - (j + 1) = n := by omega
    repeat refine AW.s rfl ?_
    try dsimp only [List.set_cons_zero, List.set_cons_succ, Option.toList_some, Option.toList_none, List.cons_append, List.nil_append]
    refine AW.b rfl (fun hc => ?_) (fun hc => ?_)
    · have hc1 := hc
      rcases g1 with ⟨i1, rfl, -, -⟩ | ⟨e, i1, s1, rfl, hcc, h1⟩
      · exact hend (by rw [g2, lpP_n])
      · have hle := h1.2.1
        have hlE := hE.1
        have := h1.2.2.2.1
        exact absurd (hcc.symm.trans hc1) (nI_m1 (by omega))
    · have hc1 := hc
      rcases g1 with ⟨i1, rfl, hcc, -⟩ | ⟨e, i1, s1, rfl, hcc, h1⟩
      · exact absurd hcc hc1
      · have h1' := h1
        obtain ⟨a1, a2, a3, a4, a5, a6, a7⟩ := h1'
        have hlE := hE.1
        repeat refine AW.s rfl ?_
        try dsimp only [List.set_cons_zero, List.set_cons_succ, Option.toList_some, Option.toList_none, List.cons_append, List.nil_append]
        refine AW.V k_2_60 ((c_take (k := 8) hd a6 hE a2)) rfl rfl rfl rfl rfl rfl (fun r1 m2 hq => ?_)
        rcases hq with ⟨hk1, rfl, hm2⟩ | ⟨hk1, rfl, hm2⟩
        · rw [hm2]
          try dsimp only [List.set_cons_zero, List.set_cons_succ, Option.toList_some, Option.toList_none, List.cons_append, List.nil_append]
          have hop : opA (hk (ts.drop i1)) = some 3 := by rw [hk1]; rfl
          have hnx : i1 + 1 < ts.length := hk_nx hE a2 (by rw [hk1]; decide)
          rw [hn, lpP_s hop, tl_dr] at g2
          refine AW.b rfl (fun hc => ?_) (fun hc => ?_)
          · exact absurd hc (by decide)
          · repeat refine AW.s rfl ?_
            try dsimp only [List.set_cons_zero, List.set_cons_succ, Option.toList_some, Option.toList_none, List.cons_append, List.nil_append]
            refine AW.V k_2_81 ((hsub _ (i1 + 1) s1 b (a6.at (by omega) (i1 + 1)).1 hnx (by omega) (by omega))) rfl rfl rfl rfl rfl rfl (fun r1 m3 hq => ?_)
            obtain ⟨c2, rfl, hp2⟩ := hq
            have fA := a5.tr (a6.at (by omega) (i1 + 1)).2 (Nat.le_of_lt a3)
            rcases hp2 with ⟨i2, hq2, rfl, f1, f2, f3⟩ | ⟨e2, i2, s2, hq2, rfl, h2⟩
            · rw [hq2] at g2
              try dsimp only [List.set_cons_zero, List.set_cons_succ, Option.toList_some, Option.toList_none, List.cons_append, List.nil_append]
              refine AW.V k_2_78 ((c_joined (s := 0) (t := t) hd ht ((fA.tr f3 (Nat.le_of_lt a3)).at1 hP.2.1) (Or.inl rfl))) rfl rfl rfl rfl rfl rfl (fun r1 m4 hq => ?_)
              rcases hq with ⟨-, rfl, hm4⟩ | ⟨hne, -, -⟩
              · rw [hm4]
                repeat refine AW.u 7 rfl rfl ?_
                try dsimp only [List.set_cons_zero, List.set_cons_succ, Option.toList_some, Option.toList_none, List.cons_append, List.nil_append]
                rw [nI_1]
                exact ih (-1, (none, ts.drop i2)) m3 hlt ⟨Or.inl ⟨i2, rfl, rfl, f1, f2, fA.tr f3 (Nat.le_of_lt a3)⟩, by rw [hn1]; exact g2⟩
              · exact absurd rfl hne
            · rw [hq2] at g2
              have h2' := h2
              obtain ⟨b1, b2, b3, b4, b5, b6, b7⟩ := h2'
              try dsimp only [List.set_cons_zero, List.set_cons_succ, Option.toList_some, Option.toList_none, List.cons_append, List.nil_append]
              refine AW.V k_2_78 ((c_joined (s := s2) (t := t) hd ht b6.2.1 (Or.inr ⟨b6.2.2.2.2.2.1, by omega⟩))) rfl rfl rfl rfl rfl rfl (fun r1 m4 hq => ?_)
              rcases hq with ⟨hz, -, -⟩ | ⟨-, rfl, hm4⟩
              · exact absurd hz (nI_m1 (by omega))
              · rw [hm4, hcc]
                repeat refine AW.u 7 rfl rfl ?_
                try dsimp only [List.set_cons_zero, List.set_cons_succ, Option.toList_some, Option.toList_none, List.cons_append, List.nil_append]
                rw [nI_1]
                exact ih (nI s2, (some (fun F => bopV 3 (e F) (e2 F)), ts.drop i2)) _ hlt ⟨Or.inr ⟨_, i2, s2 + 1, rfl, rfl, PSuc.bin ht hE hsi hbs (by decide) h1 h2⟩, by rw [hn1]; exact g2⟩
        · rw [hm2]
          try dsimp only [List.set_cons_zero, List.set_cons_succ, Option.toList_some, Option.toList_none, List.cons_append, List.nil_append]
          have hop : opA (hk (ts.drop i1)) = none := if_neg hk1
          refine AW.b rfl (fun hc => ?_) (fun hc => ?_)
          · exact hend (by rw [g2, lpP_e hop])
          · exact absurd rfl hc
  · have : j = 160 := by
      have : ¬ j < 160 := fun q => hc (nI_lt (b := 160) q (by decide))
      omega
    subst this
    exact hend g2
theorem c_readE {l : Launch} {X : XT} {d t o : Nat} {ts : List TK} {P : List TK → PR} (hd : 1 ≤ d) (ht : t < 6) (hE : EOK ts) (hsub : RDC l X t ts M_X2_readAnd P o d) : RDC l X t ts M_X2_readE (seqP opO P) o (d + 1) := by
  intro m i s b hP hi hbs hsi
  refine E_X2_readE (ls := [vR 3 41, vU, vU]) rfl rfl ?_
  repeat refine AW.s rfl ?_
  try dsimp only [List.set_cons_zero, List.set_cons_succ, Option.toList_some, Option.toList_none, List.cons_append, List.nil_append]
  refine AW.V k_2_75 ((hsub m i s b hP hi hbs hsi)) rfl rfl rfl rfl rfl rfl (fun r1 m1 hq => ?_)
  obtain ⟨c, rfl, hp⟩ := hq
  repeat refine AW.u 7 rfl rfl ?_
  try dsimp only [List.set_cons_zero, List.set_cons_succ, Option.toList_some, Option.toList_none, List.cons_append, List.nil_append]
  refine AW.loop (pc := 7) (σ := Int32 × PR) 160 (fun j st => [vR 3 41, vI st.1, vI (nI j)]) (fun j st m1 => PPo m (199 + 6 * t) ts i o s b st.2 st.1 m1 ∧ seqP opO P (ts.drop i) = lpP opO P (160 - j) st.2) (fun j st m1 hj hm1 ih => ?_) 0 (c, P (ts.drop i)) m1 (Nat.zero_le _) ⟨hp, rfl⟩
  obtain ⟨c, q⟩ := st
  obtain ⟨g1, g2⟩ := hm1
  have g1 : PPo m (199 + 6 * t) ts i o s b q c m1 := g1
  have g2 : seqP opO P (ts.drop i) = lpP opO P (160 - j) q := g2
  have hend : seqP opO P (ts.drop i) = q → AW (GM l X (d + 1) M_X2_readE (fun r m' => ∃ c, r = some (vI c) ∧ PPo m (199 + 6 * t) ts i o s b (seqP opO P (ts.drop i)) c m')) 45 [vR 3 41, vI c, vI (nI j)] [] m1 := by
    intro he
    rw [he]
    repeat refine AW.s rfl ?_
    try dsimp only [List.set_cons_zero, List.set_cons_succ, Option.toList_some, Option.toList_none, List.cons_append, List.nil_append]
    exact AW.ri rfl rfl rfl ⟨c, rfl, g1⟩
  repeat refine AW.s rfl ?_
  try dsimp only [List.set_cons_zero, List.set_cons_succ, Option.toList_some, Option.toList_none, List.cons_append, List.nil_append]
  refine AW.b rfl (fun hc => ?_) (fun hc => ?_)
  · have hlt : j < 160 := (nI_ltI (b := 160) (by omega) (by decide)).mp hc
    obtain ⟨n, hn⟩ : ∃ n, 160 - j = n + 1 := ⟨160 - j - 1, by omega⟩
    have hn1 : 160 - (j + 1) = n := by omega
    repeat refine AW.s rfl ?_
    try dsimp only [List.set_cons_zero, List.set_cons_succ, Option.toList_some, Option.toList_none, List.cons_append, List.nil_append]
    refine AW.b rfl (fun hc => ?_) (fun hc => ?_)
    · have hc1 := hc
      rcases g1 with ⟨i1, rfl, -, -⟩ | ⟨e, i1, s1, rfl, hcc, h1⟩
      · exact hend (by rw [g2, lpP_n])
      · have hle := h1.2.1
        have hlE := hE.1
        have := h1.2.2.2.1
        exact absurd (hcc.symm.trans hc1) (nI_m1 (by omega))
    · have hc1 := hc
      rcases g1 with ⟨i1, rfl, hcc, -⟩ | ⟨e, i1, s1, rfl, hcc, h1⟩
      · exact absurd hcc hc1
      · have h1' := h1
        obtain ⟨a1, a2, a3, a4, a5, a6, a7⟩ := h1'
        have hlE := hE.1
        repeat refine AW.s rfl ?_
        try dsimp only [List.set_cons_zero, List.set_cons_succ, Option.toList_some, Option.toList_none, List.cons_append, List.nil_append]
        refine AW.V k_2_60 ((c_take (k := 7) hd a6 hE a2)) rfl rfl rfl rfl rfl rfl (fun r1 m2 hq => ?_)
        rcases hq with ⟨hk1, rfl, hm2⟩ | ⟨hk1, rfl, hm2⟩
        · rw [hm2]
          try dsimp only [List.set_cons_zero, List.set_cons_succ, Option.toList_some, Option.toList_none, List.cons_append, List.nil_append]
          have hop : opO (hk (ts.drop i1)) = some 2 := by rw [hk1]; rfl
          have hnx : i1 + 1 < ts.length := hk_nx hE a2 (by rw [hk1]; decide)
          rw [hn, lpP_s hop, tl_dr] at g2
          refine AW.b rfl (fun hc => ?_) (fun hc => ?_)
          · exact absurd hc (by decide)
          · repeat refine AW.s rfl ?_
            try dsimp only [List.set_cons_zero, List.set_cons_succ, Option.toList_some, Option.toList_none, List.cons_append, List.nil_append]
            refine AW.V k_2_75 ((hsub _ (i1 + 1) s1 b (a6.at (by omega) (i1 + 1)).1 hnx (by omega) (by omega))) rfl rfl rfl rfl rfl rfl (fun r1 m3 hq => ?_)
            obtain ⟨c2, rfl, hp2⟩ := hq
            have fA := a5.tr (a6.at (by omega) (i1 + 1)).2 (Nat.le_of_lt a3)
            rcases hp2 with ⟨i2, hq2, rfl, f1, f2, f3⟩ | ⟨e2, i2, s2, hq2, rfl, h2⟩
            · rw [hq2] at g2
              try dsimp only [List.set_cons_zero, List.set_cons_succ, Option.toList_some, Option.toList_none, List.cons_append, List.nil_append]
              refine AW.V k_2_78 ((c_joined (s := 0) (t := t) hd ht ((fA.tr f3 (Nat.le_of_lt a3)).at1 hP.2.1) (Or.inl rfl))) rfl rfl rfl rfl rfl rfl (fun r1 m4 hq => ?_)
              rcases hq with ⟨-, rfl, hm4⟩ | ⟨hne, -, -⟩
              · rw [hm4]
                repeat refine AW.u 7 rfl rfl ?_
                try dsimp only [List.set_cons_zero, List.set_cons_succ, Option.toList_some, Option.toList_none, List.cons_append, List.nil_append]
                rw [nI_1]
                exact ih (-1, (none, ts.drop i2)) m3 hlt ⟨Or.inl ⟨i2, rfl, rfl, f1, f2, fA.tr f3 (Nat.le_of_lt a3)⟩, by rw [hn1]; exact g2⟩
              · exact absurd rfl hne
            · rw [hq2] at g2
              have h2' := h2
              obtain ⟨b1, b2, b3, b4, b5, b6, b7⟩ := h2'
              try dsimp only [List.set_cons_zero, List.set_cons_succ, Option.toList_some, Option.toList_none, List.cons_append, List.nil_append]
              refine AW.V k_2_78 ((c_joined (s := s2) (t := t) hd ht b6.2.1 (Or.inr ⟨b6.2.2.2.2.2.1, by omega⟩))) rfl rfl rfl rfl rfl rfl (fun r1 m4 hq => ?_)
              rcases hq with ⟨hz, -, -⟩ | ⟨-, rfl, hm4⟩
              · exact absurd hz (nI_m1 (by omega))
              · rw [hm4, hcc]
                repeat refine AW.u 7 rfl rfl ?_
                try dsimp only [List.set_cons_zero, List.set_cons_succ, Option.toList_some, Option.toList_none, List.cons_append, List.nil_append]
                rw [nI_1]
                exact ih (nI s2, (some (fun F => bopV 2 (e F) (e2 F)), ts.drop i2)) _ hlt ⟨Or.inr ⟨_, i2, s2 + 1, rfl, rfl, PSuc.bin ht hE hsi hbs (by decide) h1 h2⟩, by rw [hn1]; exact g2⟩
        · rw [hm2]
          try dsimp only [List.set_cons_zero, List.set_cons_succ, Option.toList_some, Option.toList_none, List.cons_append, List.nil_append]
          have hop : opO (hk (ts.drop i1)) = none := if_neg hk1
          refine AW.b rfl (fun hc => ?_) (fun hc => ?_)
          · exact hend (by rw [g2, lpP_e hop])
          · exact absurd rfl hc
  · have : j = 160 := by
      have : ¬ j < 160 := fun q => hc (nI_lt (b := 160) q (by decide))
      omega
    subst this
    exact hend g2
