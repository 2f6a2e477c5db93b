theorem c_readSum {l : Launch} {X : XT} {d t o : Nat} {ts : List TK} {P : List TK → PR} (hd : 1 ≤ d) (ht : t < 6) (hE : EOK ts) (hsub : RDC l X t ts M_X2_readTerm P o d) : RDC l X t ts M_X2_readSum (seqP opS P) o (d + 1) := by
  intro m i s b hP hi hbs hsi
  refine E_X2_readSum (ls := [vR 3 41, vU, vU, vU]) rfl rfl ?_
  repeat refine AW.s rfl ?_
  try dsimp only [List.set_cons_zero, List.set_cons_succ, Option.toList_some, Option.toList_none, List.cons_append, List.nil_append]
  refine AW.V k_2_98 ((hsub m i s b hP hi hbs hsi)) rfl rfl rfl rfl rfl rfl (fun r1 m1 hq => ?_)
  obtain ⟨c, rfl, hp⟩ := hq
  repeat refine AW.u 7 rfl rfl ?_
  try dsimp only [List.set_cons_zero, List.set_cons_succ, Option.toList_some, Option.toList_none, List.cons_append, List.nil_append]
  refine AW.loop (pc := 7) (σ := Int32 × PR) 160 (fun j st => [vR 3 41, vI st.1, vI (nI j), vU]) (fun j st m1 => PPo m (199 + 6 * t) ts i o s b st.2 st.1 m1 ∧ seqP opS P (ts.drop i) = lpP opS P (160 - j) st.2) (fun j st m1 hj hm1 ih => ?_) 0 (c, P (ts.drop i)) m1 (Nat.zero_le _) ⟨hp, rfl⟩
  obtain ⟨c, q⟩ := st
  obtain ⟨g1, g2⟩ := hm1
  have g1 : PPo m (199 + 6 * t) ts i o s b q c m1 := g1
  have g2 : seqP opS P (ts.drop i) = lpP opS P (160 - j) q := g2
  have hend : seqP opS P (ts.drop i) = q → AW (GM l X (d + 1) M_X2_readSum (fun r m' => ∃ c, r = some (vI c) ∧ PPo m (199 + 6 * t) ts i o s b (seqP opS P (ts.drop i)) c m')) 81 [vR 3 41, vI c, vI (nI j), vU] [] m1 := by
    intro he
    rw [he]
    repeat refine AW.s rfl ?_
    try dsimp only [List.set_cons_zero, List.set_cons_succ, Option.toList_some, Option.toList_none, List.cons_append, List.nil_append]
    exact AW.ri rfl rfl rfl ⟨c, rfl, g1⟩
  repeat refine AW.s rfl ?_
  try dsimp only [List.set_cons_zero, List.set_cons_succ, Option.toList_some, Option.toList_none, List.cons_append, List.nil_append]
  refine AW.b rfl (fun hc => ?_) (fun hc => ?_)
  · have hlt : j < 160 := (nI_ltI (b := 160) (by omega) (by decide)).mp hc
    obtain ⟨n, hn⟩ : ∃ n, 160 - j = n + 1 := ⟨160 - j - 1, by omega⟩
    have hn1 : 160 - (j + 1) = n := by omega
    repeat refine AW.s rfl ?_
    try dsimp only [List.set_cons_zero, List.set_cons_succ, Option.toList_some, Option.toList_none, List.cons_append, List.nil_append]
    refine AW.b rfl (fun hc => ?_) (fun hc => ?_)
    · have hc1 := hc
      rcases g1 with ⟨i1, rfl, -, -⟩ | ⟨e, i1, s1, rfl, hcc, h1⟩
      · exact hend (by rw [g2, lpP_n])
      · have hle := h1.2.1
        have hlE := hE.1
        have := h1.2.2.2.1
        exact absurd (hcc.symm.trans hc1) (nI_m1 (by omega))
    · have hc1 := hc
      rcases g1 with ⟨i1, rfl, hcc, -⟩ | ⟨e, i1, s1, rfl, hcc, h1⟩
      · exact absurd hcc hc1
      · have h1' := h1
        obtain ⟨a1, a2, a3, a4, a5, a6, a7⟩ := h1'
        have hlE := hE.1
        have go : ∀ n2 : Nat, (n2 = 7 ∨ n2 = 8) → opS (hk (ts.drop i1)) = some n2 → 1 < hk (ts.drop i1) → AW (GM l X (d + 1) M_X2_readSum (fun r m' => ∃ c, r = some (vI c) ∧ PPo m (199 + 6 * t) ts i o s b (seqP opS P (ts.drop i)) c m')) 53 [vR 3 41, vI c, vI (nI j), vU] [vI (nI n2)] m1 := by
          intro n2 hn2 hop h1k
          have hnx : i1 + 1 < ts.length := hk_nx hE a2 h1k
          rw [hn, lpP_s hop, tl_dr] at g2
          repeat refine AW.s rfl ?_
          try dsimp only [List.set_cons_zero, List.set_cons_succ, Option.toList_some, Option.toList_none, List.cons_append, List.nil_append]
          rw [a6.2.2.1, nI_1]
          refine AW.V k_2_98 ((hsub _ (i1 + 1) s1 b (a6.at (by omega) (i1 + 1)).1 hnx (by omega) (by omega))) rfl rfl rfl rfl rfl rfl (fun r1 m3 hq => ?_)
          obtain ⟨c2, rfl, hp2⟩ := hq
          have fA := a5.tr (a6.at (by omega) (i1 + 1)).2 (Nat.le_of_lt a3)
          rcases hp2 with ⟨i2, hq2, rfl, f1, f2, f3⟩ | ⟨e2, i2, s2, hq2, rfl, h2⟩
          · rw [hq2] at g2
            try dsimp only [List.set_cons_zero, List.set_cons_succ, Option.toList_some, Option.toList_none, List.cons_append, List.nil_append]
            refine AW.V k_2_78 ((c_joined (s := 0) (t := t) hd ht ((fA.tr f3 (Nat.le_of_lt a3)).at1 hP.2.1) (Or.inl rfl))) rfl rfl rfl rfl rfl rfl (fun r1 m4 hq => ?_)
            rcases hq with ⟨-, rfl, hm4⟩ | ⟨hne, -, -⟩
            · rw [hm4]
              repeat refine AW.u 7 rfl rfl ?_
              try dsimp only [List.set_cons_zero, List.set_cons_succ, Option.toList_some, Option.toList_none, List.cons_append, List.nil_append]
              refine AW.fg 3 ?_
              try dsimp only [List.set_cons_zero, List.set_cons_succ, Option.toList_some, Option.toList_none, List.cons_append, List.nil_append]
              rw [nI_1]
              exact ih (-1, (none, ts.drop i2)) m3 hlt ⟨Or.inl ⟨i2, rfl, rfl, f1, f2, fA.tr f3 (Nat.le_of_lt a3)⟩, by rw [hn1]; exact g2⟩
            · exact absurd rfl hne
          · rw [hq2] at g2
            have h2' := h2
            obtain ⟨b1, b2, b3, b4, b5, b6, b7⟩ := h2'
            try dsimp only [List.set_cons_zero, List.set_cons_succ, Option.toList_some, Option.toList_none, List.cons_append, List.nil_append]
            refine AW.V k_2_78 ((c_joined (s := s2) (t := t) hd ht b6.2.1 (Or.inr ⟨b6.2.2.2.2.2.1, by omega⟩))) rfl rfl rfl rfl rfl rfl (fun r1 m4 hq => ?_)
            rcases hq with ⟨hz, -, -⟩ | ⟨-, rfl, hm4⟩
            · exact absurd hz (nI_m1 (by omega))
            · rw [hm4, hcc]
              repeat refine AW.u 7 rfl rfl ?_
              try dsimp only [List.set_cons_zero, List.set_cons_succ, Option.toList_some, Option.toList_none, List.cons_append, List.nil_append]
              refine AW.fg 3 ?_
              try dsimp only [List.set_cons_zero, List.set_cons_succ, Option.toList_some, Option.toList_none, List.cons_append, List.nil_append]
              rw [nI_1]
              exact ih (nI s2, (some (fun F => bopV n2 (e F) (e2 F)), ts.drop i2)) _ hlt ⟨Or.inr ⟨_, i2, s2 + 1, rfl, rfl, PSuc.bin ht hE hsi hbs (by omega) h1 h2⟩, by rw [hn1]; exact g2⟩
        have hx : ∀ m', m' = m1 → m' = m1 := fun _ h => h
        repeat refine AW.s rfl ?_
        try dsimp only [List.set_cons_zero, List.set_cons_succ, Option.toList_some, Option.toList_none, List.cons_append, List.nil_append]
        refine AW.V k_2_40 ((c_Pnext a6 hE a2)) rfl rfl rfl rfl rfl rfl (fun r1 m2 hq => ?_)
        obtain ⟨rfl, hm2⟩ := hq
        rw [hm2]
        repeat refine AW.s rfl ?_
        try dsimp only [List.set_cons_zero, List.set_cons_succ, Option.toList_some, Option.toList_none, List.cons_append, List.nil_append]
        refine AW.b rfl (fun hc => ?_) (fun hc => ?_)
        · have k1 : hk (ts.drop i1) = 43 := hc
          repeat refine AW.s rfl ?_
          try dsimp only [List.set_cons_zero, List.set_cons_succ, Option.toList_some, Option.toList_none, List.cons_append, List.nil_append]
          refine AW.V k_2_40 ((c_Pnext a6 hE a2)) rfl rfl rfl rfl rfl rfl (fun r1 m3 hq => ?_)
          obtain ⟨rfl, hm3⟩ := hq
          rw [hm3]
          repeat refine AW.s rfl ?_
          try dsimp only [List.set_cons_zero, List.set_cons_succ, Option.toList_some, Option.toList_none, List.cons_append, List.nil_append]
          refine AW.b rfl (fun hc => ?_) (fun hc => ?_)
          · repeat refine AW.u 53 rfl rfl ?_
            try dsimp only [List.set_cons_zero, List.set_cons_succ, Option.toList_some, Option.toList_none, List.cons_append, List.nil_append]
            exact go 7 (Or.inl rfl) (by rw [k1]; rfl) (by rw [k1]; decide)
          · exact absurd k1 hc
        · have k1 : ¬ hk (ts.drop i1) = 43 := hc
          repeat refine AW.s rfl ?_
          try dsimp only [List.set_cons_zero, List.set_cons_succ, Option.toList_some, Option.toList_none, List.cons_append, List.nil_append]
          refine AW.V k_2_40 ((c_Pnext a6 hE a2)) rfl rfl rfl rfl rfl rfl (fun r1 m3 hq => ?_)
          obtain ⟨rfl, hm3⟩ := hq
          rw [hm3]
          repeat refine AW.s rfl ?_
          try dsimp only [List.set_cons_zero, List.set_cons_succ, Option.toList_some, Option.toList_none, List.cons_append, List.nil_append]
          refine AW.b rfl (fun hc => ?_) (fun hc => ?_)
          · have k2 : hk (ts.drop i1) = 45 := hc
            repeat refine AW.s rfl ?_
            try dsimp only [List.set_cons_zero, List.set_cons_succ, Option.toList_some, Option.toList_none, List.cons_append, List.nil_append]
            refine AW.V k_2_40 ((c_Pnext a6 hE a2)) rfl rfl rfl rfl rfl rfl (fun r1 m4 hq => ?_)
            obtain ⟨rfl, hm4⟩ := hq
            rw [hm4]
            repeat refine AW.s rfl ?_
            try dsimp only [List.set_cons_zero, List.set_cons_succ, Option.toList_some, Option.toList_none, List.cons_append, List.nil_append]
            refine AW.b rfl (fun hc => ?_) (fun hc => ?_)
            · exact absurd hc k1
            · repeat refine AW.u 53 rfl rfl ?_
              try dsimp only [List.set_cons_zero, List.set_cons_succ, Option.toList_some, Option.toList_none, List.cons_append, List.nil_append]
              exact go 8 (Or.inr rfl) (by rw [k2]; rfl) (by rw [k2]; decide)
          · have k2 : ¬ hk (ts.drop i1) = 45 := hc
            have hop : opS (hk (ts.drop i1)) = none := by unfold opS; rw [if_neg k1, if_neg k2]
            exact hend (by rw [g2, lpP_e hop])
  · have : j = 160 := by
      have : ¬ j < 160 := fun q => hc (nI_lt (b := 160) q (by decide))
      omega
    subst this
    exact hend g2
theorem c_readComparison {l : Launch} {X : XT} {d t o : Nat} {ts : List TK} {one : List TK → PR} (hd : 1 ≤ d) (ht : t < 6) (hE : EOK ts) (hsub : RDC l X t ts M_X2_readSum (sumP one) o d) : RDC l X t ts M_X2_readComparison (cmpP one) o (d + 1) := by
  intro m i s b hP hi hbs hsi
  have hlE := hE.1
  refine E_X2_readComparison (ls := [vR 3 41, vU]) rfl rfl ?_
  repeat refine AW.s rfl ?_
  try dsimp only [List.set_cons_zero, List.set_cons_succ, Option.toList_some, Option.toList_none, List.cons_append, List.nil_append]
  refine AW.V k_2_95 ((hsub m i s b hP hi hbs hsi)) rfl rfl rfl rfl rfl rfl (fun r1 m1 hq => ?_)
  obtain ⟨c, rfl, hp⟩ := hq
  rcases hp with ⟨i1, hq1, rfl, hf⟩ | ⟨e, i1, s1, hq1, rfl, h1⟩
  · have e0 : cmpP one (ts.drop i) = (none, ts.drop i1) := by unfold cmpP; rw [hq1]
    rw [e0]
    repeat refine AW.s rfl ?_
    try dsimp only [List.set_cons_zero, List.set_cons_succ, Option.toList_some, Option.toList_none, List.cons_append, List.nil_append]
    refine AW.b rfl (fun hc => ?_) (fun hc => ?_)
    · repeat refine AW.s rfl ?_
      try dsimp only [List.set_cons_zero, List.set_cons_succ, Option.toList_some, Option.toList_none, List.cons_append, List.nil_append]
      refine AW.b rfl (fun hc => ?_) (fun hc => ?_)
      · repeat refine AW.s rfl ?_
        try dsimp only [List.set_cons_zero, List.set_cons_succ, Option.toList_some, Option.toList_none, List.cons_append, List.nil_append]
        exact AW.ri rfl rfl rfl ⟨_, rfl, Or.inl ⟨i1, rfl, rfl, hf⟩⟩
      · exact absurd rfl hc
    · exact absurd rfl hc
  · have e0 : cmpP one (ts.drop i) = if hk (ts.drop i1) = 60 then binP 5 e (sumP one (ts.drop (i1 + 1))) else if hk (ts.drop i1) = 61 then binP 6 e (sumP one (ts.drop (i1 + 1))) else (some e, ts.drop i1) := by
      unfold cmpP
      rw [hq1]
      show (if hk (ts.drop i1) = 60 then binP 5 e (sumP one (ts.drop i1).tail) else if hk (ts.drop i1) = 61 then binP 6 e (sumP one (ts.drop i1).tail) else (some e, ts.drop i1)) = _
      rw [tl_dr]
    have h1' := h1
    obtain ⟨a1, a2, a3, a4, a5, a6, a7⟩ := h1'
    have hm1 : ¬ nI (s1 - 1) = -1 := nI_m1 (by omega)
    have fA := a5.tr (a6.at (by omega) (i1 + 1)).2 (Nat.le_of_lt a3)
    repeat refine AW.s rfl ?_
    try dsimp only [List.set_cons_zero, List.set_cons_succ, Option.toList_some, Option.toList_none, List.cons_append, List.nil_append]
    refine AW.b rfl (fun hc => ?_) (fun hc => ?_)
    · exact absurd hc hm1
    · repeat refine AW.s rfl ?_
      try dsimp only [List.set_cons_zero, List.set_cons_succ, Option.toList_some, Option.toList_none, List.cons_append, List.nil_append]
      refine AW.V k_2_60 ((c_take (k := 60) hd a6 hE a2)) rfl rfl rfl rfl rfl rfl (fun r1 m2 hq => ?_)
      rcases hq with ⟨hk1, rfl, hm2⟩ | ⟨hk1, rfl, hm2⟩
      · rw [if_pos hk1] at e0
        rw [hm2]
        have hnx : i1 + 1 < ts.length := hk_nx hE a2 (by rw [hk1]; decide)
        try dsimp only [List.set_cons_zero, List.set_cons_succ, Option.toList_some, Option.toList_none, List.cons_append, List.nil_append]
        refine AW.b rfl (fun hc => ?_) (fun hc => ?_)
        · exact absurd hc (by decide)
        · repeat refine AW.s rfl ?_
          try dsimp only [List.set_cons_zero, List.set_cons_succ, Option.toList_some, Option.toList_none, List.cons_append, List.nil_append]
          refine AW.V k_2_95 ((hsub _ (i1 + 1) s1 b (a6.at (by omega) (i1 + 1)).1 hnx (by omega) (by omega))) rfl rfl rfl rfl rfl rfl (fun r1 m3 hq => ?_)
          obtain ⟨c2, rfl, hp2⟩ := hq
          rcases hp2 with ⟨i2, hq2, rfl, f1, f2, f3⟩ | ⟨e2, i2, s2, hq2, rfl, h2⟩
          · rw [hq2] at e0
            try dsimp only [List.set_cons_zero, List.set_cons_succ, Option.toList_some, Option.toList_none, List.cons_append, List.nil_append]
            refine AW.V k_2_78 ((c_joined (s := 0) (t := t) hd ht ((fA.tr f3 (Nat.le_of_lt a3)).at1 hP.2.1) (Or.inl rfl))) rfl rfl rfl rfl rfl rfl (fun r1 m4 hq => ?_)
            rcases hq with ⟨-, rfl, hm4⟩ | ⟨hne, -, -⟩
            · rw [hm4]
              repeat refine AW.s rfl ?_
              try dsimp only [List.set_cons_zero, List.set_cons_succ, Option.toList_some, Option.toList_none, List.cons_append, List.nil_append]
              exact AW.ri rfl rfl rfl ⟨_, rfl, Or.inl ⟨i2, e0, rfl, f1, f2, fA.tr f3 (Nat.le_of_lt a3)⟩⟩
            · exact absurd rfl hne
          · rw [hq2] at e0
            have h2' := h2
            obtain ⟨b1, b2, b3, b4, b5, b6, b7⟩ := h2'
            try dsimp only [List.set_cons_zero, List.set_cons_succ, Option.toList_some, Option.toList_none, List.cons_append, List.nil_append]
            refine AW.V k_2_78 ((c_joined (s := s2) (t := t) hd ht b6.2.1 (Or.inr ⟨b6.2.2.2.2.2.1, by omega⟩))) rfl rfl rfl rfl rfl rfl (fun r1 m4 hq => ?_)
            rcases hq with ⟨hz, -, -⟩ | ⟨-, rfl, hm4⟩
            · exact absurd hz (nI_m1 (by omega))
            · rw [hm4]
              repeat refine AW.s rfl ?_
              try dsimp only [List.set_cons_zero, List.set_cons_succ, Option.toList_some, Option.toList_none, List.cons_append, List.nil_append]
              exact AW.ri rfl rfl rfl ⟨_, rfl, Or.inr ⟨_, i2, s2 + 1, e0, rfl, PSuc.bin (n := 5) ht hE hsi hbs (by decide) h1 h2⟩⟩
      · rw [if_neg hk1] at e0
        rw [hm2]
        try dsimp only [List.set_cons_zero, List.set_cons_succ, Option.toList_some, Option.toList_none, List.cons_append, List.nil_append]
        refine AW.b rfl (fun hc => ?_) (fun hc => ?_)
        · repeat refine AW.s rfl ?_
          try dsimp only [List.set_cons_zero, List.set_cons_succ, Option.toList_some, Option.toList_none, List.cons_append, List.nil_append]
          refine AW.b rfl (fun hc => ?_) (fun hc => ?_)
          · exact absurd hc hm1
          · repeat refine AW.s rfl ?_
            try dsimp only [List.set_cons_zero, List.set_cons_succ, Option.toList_some, Option.toList_none, List.cons_append, List.nil_append]
            refine AW.V k_2_60 ((c_take (k := 61) hd a6 hE a2)) rfl rfl rfl rfl rfl rfl (fun r1 m2 hq => ?_)
            rcases hq with ⟨hk2, rfl, hm2⟩ | ⟨hk2, rfl, hm2⟩
            · rw [if_pos hk2] at e0
              rw [hm2]
              have hnx : i1 + 1 < ts.length := hk_nx hE a2 (by rw [hk2]; decide)
              try dsimp only [List.set_cons_zero, List.set_cons_succ, Option.toList_some, Option.toList_none, List.cons_append, List.nil_append]
              refine AW.b rfl (fun hc => ?_) (fun hc => ?_)
              · exact absurd hc (by decide)
              · repeat refine AW.s rfl ?_
                try dsimp only [List.set_cons_zero, List.set_cons_succ, Option.toList_some, Option.toList_none, List.cons_append, List.nil_append]
                refine AW.V k_2_95 ((hsub _ (i1 + 1) s1 b (a6.at (by omega) (i1 + 1)).1 hnx (by omega) (by omega))) rfl rfl rfl rfl rfl rfl (fun r1 m3 hq => ?_)
                obtain ⟨c2, rfl, hp2⟩ := hq
                rcases hp2 with ⟨i2, hq2, rfl, f1, f2, f3⟩ | ⟨e2, i2, s2, hq2, rfl, h2⟩
                · rw [hq2] at e0
                  try dsimp only [List.set_cons_zero, List.set_cons_succ, Option.toList_some, Option.toList_none, List.cons_append, List.nil_append]
                  refine AW.V k_2_78 ((c_joined (s := 0) (t := t) hd ht ((fA.tr f3 (Nat.le_of_lt a3)).at1 hP.2.1) (Or.inl rfl))) rfl rfl rfl rfl rfl rfl (fun r1 m4 hq => ?_)
                  rcases hq with ⟨-, rfl, hm4⟩ | ⟨hne, -, -⟩
                  · rw [hm4]
                    repeat refine AW.s rfl ?_
                    try dsimp only [List.set_cons_zero, List.set_cons_succ, Option.toList_some, Option.toList_none, List.cons_append, List.nil_append]
                    exact AW.ri rfl rfl rfl ⟨_, rfl, Or.inl ⟨i2, e0, rfl, f1, f2, fA.tr f3 (Nat.le_of_lt a3)⟩⟩
                  · exact absurd rfl hne
                · rw [hq2] at e0
                  have h2' := h2
                  obtain ⟨b1, b2, b3, b4, b5, b6, b7⟩ := h2'
                  try dsimp only [List.set_cons_zero, List.set_cons_succ, Option.toList_some, Option.toList_none, List.cons_append, List.nil_append]
                  refine AW.V k_2_78 ((c_joined (s := s2) (t := t) hd ht b6.2.1 (Or.inr ⟨b6.2.2.2.2.2.1, by omega⟩))) rfl rfl rfl rfl rfl rfl (fun r1 m4 hq => ?_)
                  rcases hq with ⟨hz, -, -⟩ | ⟨-, rfl, hm4⟩
                  · exact absurd hz (nI_m1 (by omega))
                  · rw [hm4]
                    repeat refine AW.s rfl ?_
                    try dsimp only [List.set_cons_zero, List.set_cons_succ, Option.toList_some, Option.toList_none, List.cons_append, List.nil_append]
                    exact AW.ri rfl rfl rfl ⟨_, rfl, Or.inr ⟨_, i2, s2 + 1, e0, rfl, PSuc.bin (n := 6) ht hE hsi hbs (by decide) h1 h2⟩⟩
            · rw [if_neg hk2] at e0
              rw [hm2]
              try dsimp only [List.set_cons_zero, List.set_cons_succ, Option.toList_some, Option.toList_none, List.cons_append, List.nil_append]
              refine AW.b rfl (fun hc => ?_) (fun hc => ?_)
              · repeat refine AW.s rfl ?_
                try dsimp only [List.set_cons_zero, List.set_cons_succ, Option.toList_some, Option.toList_none, List.cons_append, List.nil_append]
                exact AW.ri rfl rfl rfl ⟨_, rfl, Or.inr ⟨e, i1, s1, e0, rfl, h1⟩⟩
              · exact absurd rfl hc
        · exact absurd rfl hc
/-- a thing read, an operation on it; what was opened is closed -/
theorem PSuc.un {m m2 m3 : Mem} {t : Nat} {ts : List TK} {i o s b n i2 s2 : Nat} {e : FX} (ht : t < 6) (hE : EOK ts) (hsi : s ≤ i) (hbs : b ≤ s) (hn : n = 4 ∨ n = 10) (hm : PXf m m2 (199 + 6 * t) s) (h2 : PSuc m2 (199 + 6 * t) ts (i + 1) (o + 1) s b e i2 s2 m3) :
    PSuc m (199 + 6 * t) ts i o s b (fun F => uopV n (e F)) i2 (s2 + 1) (adC (mUp m3 41 3 (nI o)) (199 + 6 * t) s2 (nI n) (nI (s2 - 1)) 0) := by
  obtain ⟨b1, b2, b3, b4, b5, b6, b7⟩ := h2
  have hl := hE.1
  have hcel : celOK n (nI (s2 - 1)) 0 b s2 := ⟨by omega, fun q => absurd q (by omega), fun _ => ⟨s2 - 1, by omega, by omega, rfl⟩, fun _ q4 q10 => absurd hn (by omega)⟩
  obtain ⟨c0, c00⟩ := b6.op (by omega) o
  obtain ⟨c1, c2, c3, c4, c5⟩ := adC_st (o := o) (i := i2) ht c0 hcel
  have fT : PXf m m3 (199 + 6 * t) s := hm.tr b5 (Nat.le_refl _)
  refine ⟨by omega, b2, by omega, by omega, (fT.tr c00 (by omega)).tr c2 (by omega), c1, fun F => ?_⟩
  rw [Nat.add_sub_cancel]
  show wkN (adC (mUp m3 41 3 (nI o)) (199 + 6 * t) s2 (nI n) (nI (s2 - 1)) 0 (199 + 6 * t + 1) s2).toNatClampNeg _ _ _ _ = _
  rw [c3, c4, nI_clamp (by omega), wk_uop hn (by omega), cvF_ag c0.2.2.2.2.2.2 (by omega) (fun k hk => c2.2.2.2 k hk) (s2 - 1) (by omega) (by omega) s2 (by omega), mUp_a (by omega), mUp_a (by omega), mUp_a (by omega), b7 F]
theorem open_st {m : Mem} {T : Nat} {ts : List TK} {i o s b : Nat} (hT : 199 ≤ T) (h : PSt m T ts i o s b) : PSt (mUp (mUp m 41 3 (nI (o + 1))) 41 2 (nI (i + 1))) T ts (i + 1) (o + 1) s b ∧ PXf m (mUp (mUp m 41 3 (nI (o + 1))) 41 2 (nI (i + 1))) T s := by
  obtain ⟨a1, a2⟩ := h.op hT (o + 1)
  obtain ⟨b1, b2⟩ := a1.at hT (i + 1)
  exact ⟨b1, a2.tr b2 (Nat.le_refl _)⟩
theorem c_readNot {l : Launch} {X : XT} {d t o k : Nat} {ts : List TK} (hd : 1 ≤ d) (ht : t < 6) (hE : EOK ts) (ho : o + k = 5) (hcmp : RDC l X t ts M_X2_readComparison (cmpP (pk k).1) o d) (hnot : ∀ k', k = k' + 1 → RDC l X t ts M_X2_readNot (pk k').2 (o + 1) d) : RDC l X t ts M_X2_readNot (pk k).2 o (d + 1) := by
  intro m i s b hP hi hbs hsi
  have hlE := hE.1
  rw [pk_not]
  refine E_X2_readNot (ls := [vR 3 41]) rfl rfl ?_
  repeat refine AW.s rfl ?_
  try dsimp only [List.set_cons_zero, List.set_cons_succ, Option.toList_some, Option.toList_none, List.cons_append, List.nil_append]
  refine AW.V k_2_40 ((c_Pnext hP hE hi)) rfl rfl rfl rfl rfl rfl (fun r1 m1 hq => ?_)
  obtain ⟨rfl, hm1⟩ := hq
  rw [hm1]
  repeat refine AW.s rfl ?_
  try dsimp only [List.set_cons_zero, List.set_cons_succ, Option.toList_some, Option.toList_none, List.cons_append, List.nil_append]
  refine AW.b rfl (fun hc => ?_) (fun hc => ?_)
  · have k9 : hk (ts.drop i) = 9 := hc
    rw [if_pos k9]
    have hnx : i + 1 < ts.length := hk_nx hE hi (by rw [k9]; decide)
    repeat refine AW.s rfl ?_
    try dsimp only [List.set_cons_zero, List.set_cons_succ, Option.toList_some, Option.toList_none, List.cons_append, List.nil_append]
    refine AW.V k_2_87 ((c_takeOpening hP (by omega))) rfl rfl rfl rfl rfl rfl (fun r1 m2 hq => ?_)
    rcases hq with ⟨h5, rfl, hm2⟩ | ⟨h5, rfl, hm2⟩
    · rw [hm2]
      try dsimp only [List.set_cons_zero, List.set_cons_succ, Option.toList_some, Option.toList_none, List.cons_append, List.nil_append]
      obtain ⟨k', rfl⟩ : ∃ k', k = k' + 1 := ⟨k - 1, by omega⟩
      obtain ⟨q1, q2⟩ := open_st (by omega) hP
      refine AW.b rfl (fun hc => ?_) (fun hc => ?_)
      · exact absurd hc (by decide)
      · repeat refine AW.s rfl ?_
        try dsimp only [List.set_cons_zero, List.set_cons_succ, Option.toList_some, Option.toList_none, List.cons_append, List.nil_append]
        refine AW.V k_2_81 ((hnot k' rfl _ (i + 1) s b q1 hnx hbs (by omega))) rfl rfl rfl rfl rfl rfl (fun r1 m3 hq => ?_)
        obtain ⟨c2, rfl, hp2⟩ := hq
        rcases hp2 with ⟨i2, hq2, rfl, f1, f2, f3⟩ | ⟨e2, i2, s2, hq2, rfl, h2⟩
        · try dsimp only [List.set_cons_zero, List.set_cons_succ, Option.toList_some, Option.toList_none, List.cons_append, List.nil_append]
          refine AW.V k_2_91 ((c_closed (s := 0) (t := t) (k := 0) hd ht ((q2.tr f3 (Nat.le_refl _)).at1 hP.2.1) (Or.inl rfl))) rfl rfl rfl rfl rfl rfl (fun r1 m4 hq => ?_)
          rcases hq with ⟨-, rfl, v, hm4⟩ | ⟨hne, -, -⟩
          · rw [hm4]
            repeat refine AW.s rfl ?_
            try dsimp only [List.set_cons_zero, List.set_cons_succ, Option.toList_some, Option.toList_none, List.cons_append, List.nil_append]
            refine AW.ri rfl rfl rfl ⟨_, rfl, Or.inl ⟨i2, ?_, rfl, f1, by rw [mUp_n (Or.inr (by decide))]; exact f2, (q2.tr f3 (Nat.le_refl _)).tr ⟨fun a h _ _ _ _ => mUp_a h, fun k _ h => mUp_n (Or.inr h), fun k _ => by rw [mUp_a (by omega)], fun k _ => by rw [mUp_a (by omega), mUp_a (by omega), mUp_a (by omega)]; exact ⟨rfl, rfl, rfl⟩⟩ (Nat.le_refl _)⟩⟩
            show unP 4 ((pk k').2 (ts.drop i).tail) = _
            rw [tl_dr, hq2]
            rfl
          · exact absurd rfl hne
        · have h2' := h2
          obtain ⟨b1, b2, b3, b4, b5, b6, b7⟩ := h2'
          try dsimp only [List.set_cons_zero, List.set_cons_succ, Option.toList_some, Option.toList_none, List.cons_append, List.nil_append]
          refine AW.V k_2_91 ((c_closed (s := s2) (t := t) (k := o) hd ht b6.2.1 (Or.inr ⟨b6.2.2.2.1, b6.2.2.2.2.2.1, by omega⟩))) rfl rfl rfl rfl rfl rfl (fun r1 m4 hq => ?_)
          rcases hq with ⟨hz, -, -⟩ | ⟨-, rfl, hm4⟩
          · exact absurd hz (nI_m1 (by omega))
          · rw [hm4]
            repeat refine AW.s rfl ?_
            try dsimp only [List.set_cons_zero, List.set_cons_succ, Option.toList_some, Option.toList_none, List.cons_append, List.nil_append]
            refine AW.ri rfl rfl rfl ⟨_, rfl, Or.inr ⟨_, i2, s2 + 1, ?_, rfl, PSuc.un (n := 4) ht hE hsi hbs (by decide) q2 h2⟩⟩
            show unP 4 ((pk k').2 (ts.drop i).tail) = _
            rw [tl_dr, hq2]
            rfl
    · rw [hm2]
      try dsimp only [List.set_cons_zero, List.set_cons_succ, Option.toList_some, Option.toList_none, List.cons_append, List.nil_append]
      have hk0 : k = 0 := by omega
      subst hk0
      refine AW.b rfl (fun hc => ?_) (fun hc => ?_)
      · repeat refine AW.s rfl ?_
        try dsimp only [List.set_cons_zero, List.set_cons_succ, Option.toList_some, Option.toList_none, List.cons_append, List.nil_append]
        exact AW.ri rfl rfl rfl ⟨_, rfl, Or.inl ⟨i, rfl, rfl, hi, hP.2.2.1, PXf.rf⟩⟩
      · exact absurd rfl hc
  · have k9 : ¬ hk (ts.drop i) = 9 := hc
    rw [if_neg k9]
    repeat refine AW.s rfl ?_
    try dsimp only [List.set_cons_zero, List.set_cons_succ, Option.toList_some, Option.toList_none, List.cons_append, List.nil_append]
    refine AW.V k_2_84 ((hcmp m i s b hP hi hbs hsi)) rfl rfl rfl rfl rfl rfl (fun r1 m2 hq => ?_)
    obtain ⟨c, rfl, hp⟩ := hq
    repeat refine AW.s rfl ?_
    try dsimp only [List.set_cons_zero, List.set_cons_succ, Option.toList_some, Option.toList_none, List.cons_append, List.nil_append]
    exact AW.ri rfl rfl rfl ⟨c, rfl, hp⟩
theorem c_readToClosing {l : Launch} {X : XT} {d t o : Nat} {ts : List TK} {P : List TK → PR} (hd : 1 ≤ d) (ht : t < 6) (hE : EOK ts) (hsub : RDC l X t ts M_X2_readE P (o + 1) d) {m m0 : Mem} {i s b : Nat} (hP : PSt m (199 + 6 * t) ts (i + 1) (o + 1) s b) (hi : i + 1 < ts.length) (hbs : b ≤ s) (hsi : s ≤ i) (h0 : PXf m0 m (199 + 6 * t) s) : Meth l X (d + 1) M_X2_readToClosing [vR 3 41] m (fun r m' => ∃ c, r = some (vI c) ∧ PPo m0 (199 + 6 * t) ts i o s b (cloP (P (ts.drop (i + 1)))) c m') := by
  have hlE := hE.1
  refine E_X2_readToClosing (ls := [vR 3 41, vU]) rfl rfl ?_
  repeat refine AW.s rfl ?_
  try dsimp only [List.set_cons_zero, List.set_cons_succ, Option.toList_some, Option.toList_none, List.cons_append, List.nil_append]
  refine AW.V k_2_64 ((hsub m (i + 1) s b hP hi hbs (by omega))) rfl rfl rfl rfl rfl rfl (fun r1 m1 hq => ?_)
  obtain ⟨c, rfl, hp⟩ := hq
  rcases hp with ⟨i1, hq1, rfl, f1, f2, f3⟩ | ⟨e, i1, s1, hq1, rfl, h1⟩
  · rw [hq1]
    repeat refine AW.s rfl ?_
    try dsimp only [List.set_cons_zero, List.set_cons_succ, Option.toList_some, Option.toList_none, List.cons_append, List.nil_append]
    refine AW.b rfl (fun hc => ?_) (fun hc => ?_)
    · repeat refine AW.s rfl ?_
      try dsimp only [List.set_cons_zero, List.set_cons_succ, Option.toList_some, Option.toList_none, List.cons_append, List.nil_append]
      exact AW.ri rfl rfl rfl ⟨_, rfl, Or.inl ⟨i1, rfl, rfl, f1, f2, h0.tr f3 (Nat.le_refl _)⟩⟩
    · exact absurd rfl hc
  · rw [hq1]
    obtain ⟨a1, a2, a3, a4, a5, a6, a7⟩ := h1
    have e0 : cloP (some e, ts.drop i1) = if hk (ts.drop i1) = 41 then (some e, ts.drop (i1 + 1)) else (none, ts.drop i1) := by
      show (if hk (ts.drop i1) = 41 then (some e, (ts.drop i1).tail) else (none, ts.drop i1)) = _
      rw [tl_dr]
    rw [e0]
    repeat refine AW.s rfl ?_
    try dsimp only [List.set_cons_zero, List.set_cons_succ, Option.toList_some, Option.toList_none, List.cons_append, List.nil_append]
    refine AW.b rfl (fun hc => ?_) (fun hc => ?_)
    · exact absurd hc (nI_m1 (by omega))
    · repeat refine AW.s rfl ?_
      try dsimp only [List.set_cons_zero, List.set_cons_succ, Option.toList_some, Option.toList_none, List.cons_append, List.nil_append]
      refine AW.V k_2_60 ((c_take (k := 41) hd a6 hE a2)) rfl rfl rfl rfl rfl rfl (fun r1 m2 hq => ?_)
      rcases hq with ⟨hk1, rfl, hm2⟩ | ⟨hk1, rfl, hm2⟩
      · rw [if_pos hk1, hm2]
        have hnx : i1 + 1 < ts.length := hk_nx hE a2 (by rw [hk1]; decide)
        obtain ⟨q1, q2⟩ := a6.at (by omega) (i1 + 1)
        obtain ⟨q3, q4⟩ := q1.op (by omega) o
        try dsimp only [List.set_cons_zero, List.set_cons_succ, Option.toList_some, Option.toList_none, List.cons_append, List.nil_append]
        refine AW.b rfl (fun hc => ?_) (fun hc => ?_)
        · exact absurd hc (by decide)
        · repeat refine AW.s rfl ?_
          try dsimp only [List.set_cons_zero, List.set_cons_succ, Option.toList_some, Option.toList_none, List.cons_append, List.nil_append]
          rw [q1.2.2.2.1, show nI (o + 1) - 1 = nI o from pk_sub (b := 1) (by omega)]
          refine AW.ri rfl rfl rfl ⟨_, rfl, Or.inr ⟨e, i1 + 1, s1, rfl, rfl, by omega, hnx, a3, by omega, ((h0.tr a5 (Nat.le_refl _)).tr q2 (Nat.le_of_lt a3)).tr q4 (Nat.le_of_lt a3), q3, fun F => ?_⟩⟩
          rw [mUp_a (by omega), mUp_a (by omega), mUp_a (by omega), mUp_a (by omega), mUp_a (by omega), mUp_a (by omega)]
          exact a7 F
      · rw [if_neg hk1, hm2]
        try dsimp only [List.set_cons_zero, List.set_cons_succ, Option.toList_some, Option.toList_none, List.cons_append, List.nil_append]
        refine AW.b rfl (fun hc => ?_) (fun hc => ?_)
        · repeat refine AW.s rfl ?_
          try dsimp only [List.set_cons_zero, List.set_cons_succ, Option.toList_some, Option.toList_none, List.cons_append, List.nil_append]
          exact AW.ri rfl rfl rfl ⟨_, rfl, Or.inl ⟨i1, rfl, rfl, a2, a6.2.2.1, h0.tr a5 (Nat.le_refl _)⟩⟩
        · exact absurd rfl hc
/-- names are names -/
def NOK (ts : List TK) : Prop := ∀ (j : Nat) (t : TK), ts[j]? = some t → t.1 = 3 → ∃ n, n < 6 ∧ t.2.1 = nI n
theorem c_readValue {l : Launch} {X : XT} {d t o : Nat} {ts : List TK} {n : Nat} {e : FX} {m : Mem} {i s b : Nat} (hd : 1 ≤ d) (ht : t < 6) (hE : EOK ts) (hP : PSt m (199 + 6 * t) ts i o s b) (hnx : i + 1 < ts.length) (hbs : b ≤ s) (hsi : s ≤ i) (hn : n ≤ 1) (hc0 : n = 1 → ∃ j, j < 6 ∧ hvl (ts.drop i) = nI j) (he : ∀ v F, wkN n (hvl (ts.drop i)) 0 v F = e F) : Meth l X d M_X2_readValue [vR 3 41, vI (nI n)] m (fun r m' => ∃ c, r = some (vI c) ∧ PPo m (199 + 6 * t) ts i o s b (some e, ts.drop (i + 1)) c m') := by
  obtain ⟨d, rfl⟩ : ∃ e, d = e + 1 := ⟨d - 1, by omega⟩
  have hlE := hE.1
  obtain ⟨tk, htk, -⟩ := drop_hd (ts := ts) (i := i) (by omega)
  have h36 : (m 41 0).toNatClampNeg = 36 := by rw [hP.1]; rfl
  refine E_X2_readValue (ls := [vR 3 41, vI (nI n), vU]) rfl rfl ?_
  repeat refine AW.s rfl ?_
  try dsimp only [List.set_cons_zero, List.set_cons_succ, Option.toList_some, Option.toList_none, List.cons_append, List.nil_append]
  refine AW.c rfl ((by rw [h36]; decide)) ?_
  try dsimp only [List.set_cons_zero, List.set_cons_succ, Option.toList_some, Option.toList_none, List.cons_append, List.nil_append]
  rw [h36]
  repeat refine AW.s rfl ?_
  try dsimp only [List.set_cons_zero, List.set_cons_succ, Option.toList_some, Option.toList_none, List.cons_append, List.nil_append]
  rw [hP.2.2.1]
  refine AW.c rfl (vp_in_nI (by omega) (by decide)) ?_
  try dsimp only [List.set_cons_zero, List.set_cons_succ, Option.toList_some, Option.toList_none, List.cons_append, List.nil_append]
  rw [nI_clamp (by omega), show m (36 + 3) i = tk.2.1 from (hP.2.2.2.2.1.2 i tk htk).2.1, ← (hk_at htk).2.1]
  repeat refine AW.s rfl ?_
  try dsimp only [List.set_cons_zero, List.set_cons_succ, Option.toList_some, Option.toList_none, List.cons_append, List.nil_append]
  rw [hP.2.2.1, nI_1]
  obtain ⟨q1, q2⟩ := hP.at (by omega) (i + 1)
  have hTT : (mUp m 41 2 (nI (i + 1)) 41 1).toNatClampNeg = 199 + 6 * t := by rw [q1.2.1]; exact nI_clamp (by omega)
  refine AW.c rfl ((by rw [hTT]; exact layT_T t ht)) ?_
  try dsimp only [List.set_cons_zero, List.set_cons_succ, Option.toList_some, Option.toList_none, List.cons_append, List.nil_append]
  rw [hTT]
  repeat refine AW.s rfl ?_
  try dsimp only [List.set_cons_zero, List.set_cons_succ, Option.toList_some, Option.toList_none, List.cons_append, List.nil_append]
  refine AW.V k_2_71 ((c_Padd q1.2.2.2.2.2.1 (by omega))) rfl rfl rfl rfl rfl rfl (fun r1 m1 hq => ?_)
  obtain ⟨rfl, hm1⟩ := hq
  rw [hm1]
  have hcel : celOK n (hvl (ts.drop i)) 0 b s := ⟨by omega, hc0, fun q => absurd q (by omega), fun q => absurd q (by omega)⟩
  obtain ⟨c1, c2, c3, c4, c5⟩ := adC_st (o := o) (i := i + 1) ht q1 hcel
  refine AW.ri rfl rfl rfl ⟨_, rfl, Or.inr ⟨e, i + 1, s + 1, rfl, rfl, by omega, hnx, by omega, by omega, q2.tr c2 (Nat.le_refl _), c1, fun F => ?_⟩⟩
  rw [Nat.add_sub_cancel]
  show wkN (adC (mUp m 41 2 (nI (i + 1))) (199 + 6 * t) s (nI n) (hvl (ts.drop i)) 0 (199 + 6 * t + 1) s).toNatClampNeg _ _ _ _ = _
  rw [c3, c4, c5, nI_clamp (by omega)]
  exact he _ F
theorem look4 {x : Int32} {d p q r s : Int} (h1 : ¬ x = nI 2) (h2 : ¬ x = nI 3) (h3 : ¬ x = nI 40) (h4 : ¬ x = nI 45) : Op.lookupswitch.offset [(2, p), (3, q), (40, r), (45, s)] d x.toInt = d := by
  have a1 := i32_ne (n := 2) (by decide) h1
  have a2 := i32_ne (n := 3) (by decide) h2
  have a3 := i32_ne (n := 40) (by decide) h3
  have a4 := i32_ne (n := 45) (by decide) h4
  have a1 : x.toInt ≠ 2 := a1
  have a2 : x.toInt ≠ 3 := a2
  have a3 : x.toInt ≠ 40 := a3
  have a4 : x.toInt ≠ 45 := a4
  simp [Op.lookupswitch.offset, a1, a2, a3, a4, Ne.symm a1, Ne.symm a2, Ne.symm a3, Ne.symm a4]
theorem c_readOne {l : Launch} {X : XT} {d t o k : Nat} {ts : List TK} (hd : 2 ≤ d) (ht : t < 6) (hE : EOK ts) (hN : NOK ts) (ho : o + k = 5) (hone : ∀ k', k = k' + 1 → RDC l X t ts M_X2_readOne (pk k').1 (o + 1) d) (hE2 : ∀ k', k = k' + 1 → ∀ d', d = d' + 1 → RDC l X t ts M_X2_readE (eP (pk k').2) (o + 1) d') : RDC l X t ts M_X2_readOne (pk k).1 o (d + 1) := by
  intro m i s b hP hi hbs hsi
  have hlE := hE.1
  refine E_X2_readOne (ls := [vR 3 41]) rfl rfl ?_
  repeat refine AW.s rfl ?_
  try dsimp only [List.set_cons_zero, List.set_cons_succ, Option.toList_some, Option.toList_none, List.cons_append, List.nil_append]
  refine AW.V k_2_40 ((c_Pnext hP hE hi)) rfl rfl rfl rfl rfl rfl (fun r1 m1 hq => ?_)
  obtain ⟨rfl, hm1⟩ := hq
  rw [hm1]
  try dsimp only [List.set_cons_zero, List.set_cons_succ, Option.toList_some, Option.toList_none, List.cons_append, List.nil_append]
  obtain ⟨tk, htk, -⟩ := drop_hd (ts := ts) (i := i) hi
  have hone0 : hk (ts.drop i) ≠ 45 → hk (ts.drop i) ≠ 40 → (pk k).1 (ts.drop i) = one0 (ts.drop i) := by
    intro h1 h2
    rw [pk_one]
    cases k with
    | zero => rfl
    | succ k' =>
      show (if hk (ts.drop i) = 45 then _ else if hk (ts.drop i) = 40 then _ else one0 (ts.drop i)) = _
      rw [if_neg h1, if_neg h2]
  by_cases k2 : hk (ts.drop i) = nI 2
  · have e0 : (pk k).1 (ts.drop i) = (some (fun _ => hvl (ts.drop i)), ts.drop (i + 1)) := by
      rw [hone0 (by rw [k2]; decide) (by rw [k2]; decide)]
      unfold one0
      rw [if_pos (show hk (ts.drop i) = 2 from k2), tl_dr]
    have hnx : i + 1 < ts.length := hk_nx hE hi (by rw [k2]; decide)
    rw [e0, k2]
    refine AW.look (tgt := 48) (off := 44) rfl (by decide) (by decide) (by decide) ?_
    repeat refine AW.s rfl ?_
    try dsimp only [List.set_cons_zero, List.set_cons_succ, Option.toList_some, Option.toList_none, List.cons_append, List.nil_append]
    refine AW.V k_2_104 ((c_readValue (n := 0) (e := fun _ => hvl (ts.drop i)) (by omega) ht hE hP hnx hbs hsi (by decide) (fun z => absurd z (by decide)) (fun v F => rfl))) rfl rfl rfl rfl rfl rfl (fun r1 m2 hq => ?_)
    obtain ⟨c, rfl, hp⟩ := hq
    repeat refine AW.s rfl ?_
    try dsimp only [List.set_cons_zero, List.set_cons_succ, Option.toList_some, Option.toList_none, List.cons_append, List.nil_append]
    exact AW.ri rfl rfl rfl ⟨c, rfl, hp⟩
  · by_cases k3 : hk (ts.drop i) = nI 3
    · have e0 : (pk k).1 (ts.drop i) = (some (fun F => F (hvl (ts.drop i)).toNatClampNeg), ts.drop (i + 1)) := by
        rw [hone0 (by rw [k3]; decide) (by rw [k3]; decide)]
        unfold one0
        rw [if_neg (show ¬ hk (ts.drop i) = 2 from k2), if_pos (show hk (ts.drop i) = 3 from k3), tl_dr]
      have hnx : i + 1 < ts.length := hk_nx hE hi (by rw [k3]; decide)
      have hnm : ∃ j, j < 6 ∧ hvl (ts.drop i) = nI j := by
        rw [(hk_at htk).2.1]
        exact hN i tk htk (by rw [← (hk_at htk).1]; exact k3)
      rw [e0, k3]
      refine AW.look (tgt := 54) (off := 50) rfl (by decide) (by decide) (by decide) ?_
      repeat refine AW.s rfl ?_
      try dsimp only [List.set_cons_zero, List.set_cons_succ, Option.toList_some, Option.toList_none, List.cons_append, List.nil_append]
      refine AW.V k_2_104 ((c_readValue (n := 1) (e := fun F => F (hvl (ts.drop i)).toNatClampNeg) (by omega) ht hE hP hnx hbs hsi (by decide) (fun _ => hnm) (fun v F => rfl))) rfl rfl rfl rfl rfl rfl (fun r1 m2 hq => ?_)
      obtain ⟨c, rfl, hp⟩ := hq
      repeat refine AW.s rfl ?_
      try dsimp only [List.set_cons_zero, List.set_cons_succ, Option.toList_some, Option.toList_none, List.cons_append, List.nil_append]
      exact AW.ri rfl rfl rfl ⟨c, rfl, hp⟩
    · by_cases k40 : hk (ts.drop i) = nI 40
      · have hnx : i + 1 < ts.length := hk_nx hE hi (by rw [k40]; decide)
        rw [k40]
        refine AW.look (tgt := 82) (off := 78) rfl (by decide) (by decide) (by decide) ?_
        repeat refine AW.s rfl ?_
        try dsimp only [List.set_cons_zero, List.set_cons_succ, Option.toList_some, Option.toList_none, List.cons_append, List.nil_append]
        refine AW.V k_2_87 ((c_takeOpening hP (by omega))) rfl rfl rfl rfl rfl rfl (fun r1 m2 hq => ?_)
        rcases hq with ⟨h5, rfl, hm2⟩ | ⟨h5, rfl, hm2⟩
        · rw [hm2]
          obtain ⟨k', rfl⟩ : ∃ k', k = k' + 1 := ⟨k - 1, by omega⟩
          obtain ⟨d', rfl⟩ : ∃ d', d = d' + 1 := ⟨d - 1, by omega⟩
          obtain ⟨q1, q2⟩ := open_st (by omega) hP
          have e0 : (pk (k' + 1)).1 (ts.drop i) = cloP (eP (pk k').2 (ts.drop (i + 1))) := by
            rw [pk_one]
            show (if hk (ts.drop i) = 45 then _ else if hk (ts.drop i) = 40 then cloP (eP (pk k').2 (ts.drop i).tail) else one0 (ts.drop i)) = _
            rw [if_neg (by rw [k40]; decide), if_pos (show hk (ts.drop i) = 40 from k40), tl_dr]
          rw [e0]
          try dsimp only [List.set_cons_zero, List.set_cons_succ, Option.toList_some, Option.toList_none, List.cons_append, List.nil_append]
          refine AW.b rfl (fun hc => ?_) (fun hc => ?_)
          · exact absurd hc (by decide)
          · repeat refine AW.s rfl ?_
            try dsimp only [List.set_cons_zero, List.set_cons_succ, Option.toList_some, Option.toList_none, List.cons_append, List.nil_append]
            refine AW.V k_2_108 ((c_readToClosing (by omega) ht hE (hE2 k' rfl d' rfl) q1 hnx hbs hsi q2)) rfl rfl rfl rfl rfl rfl (fun r1 m3 hq => ?_)
            obtain ⟨c, rfl, hp⟩ := hq
            repeat refine AW.s rfl ?_
            try dsimp only [List.set_cons_zero, List.set_cons_succ, Option.toList_some, Option.toList_none, List.cons_append, List.nil_append]
            exact AW.ri rfl rfl rfl ⟨c, rfl, hp⟩
        · rw [hm2]
          have hk0 : k = 0 := by omega
          subst hk0
          have e0 : (pk 0).1 (ts.drop i) = (none, ts.drop i) := by
            show one0 (ts.drop i) = _
            unfold one0
            rw [if_neg (show ¬ hk (ts.drop i) = 2 from k2), if_neg (show ¬ hk (ts.drop i) = 3 from k3)]
          rw [e0]
          try dsimp only [List.set_cons_zero, List.set_cons_succ, Option.toList_some, Option.toList_none, List.cons_append, List.nil_append]
          refine AW.b rfl (fun hc => ?_) (fun hc => ?_)
          · repeat refine AW.s rfl ?_
            try dsimp only [List.set_cons_zero, List.set_cons_succ, Option.toList_some, Option.toList_none, List.cons_append, List.nil_append]
            exact AW.ri rfl rfl rfl ⟨_, rfl, Or.inl ⟨i, rfl, rfl, hi, hP.2.2.1, PXf.rf⟩⟩
          · exact absurd rfl hc
      · by_cases k45 : hk (ts.drop i) = nI 45
        · have hnx : i + 1 < ts.length := hk_nx hE hi (by rw [k45]; decide)
          rw [k45]
          refine AW.look (tgt := 60) (off := 56) rfl (by decide) (by decide) (by decide) ?_
          repeat refine AW.s rfl ?_
          try dsimp only [List.set_cons_zero, List.set_cons_succ, Option.toList_some, Option.toList_none, List.cons_append, List.nil_append]
          refine AW.V k_2_87 ((c_takeOpening hP (by omega))) rfl rfl rfl rfl rfl rfl (fun r1 m2 hq => ?_)
          rcases hq with ⟨h5, rfl, hm2⟩ | ⟨h5, rfl, hm2⟩
          · rw [hm2]
            obtain ⟨k', rfl⟩ : ∃ k', k = k' + 1 := ⟨k - 1, by omega⟩
            obtain ⟨q1, q2⟩ := open_st (by omega) hP
            have e0 : (pk (k' + 1)).1 (ts.drop i) = unP 10 ((pk k').1 (ts.drop (i + 1))) := by
              rw [pk_one]
              show (if hk (ts.drop i) = 45 then unP 10 ((pk k').1 (ts.drop i).tail) else _) = _
              rw [if_pos (show hk (ts.drop i) = 45 from k45), tl_dr]
            try dsimp only [List.set_cons_zero, List.set_cons_succ, Option.toList_some, Option.toList_none, List.cons_append, List.nil_append]
            refine AW.b rfl (fun hc => ?_) (fun hc => ?_)
            · exact absurd hc (by decide)
            · repeat refine AW.s rfl ?_
              try dsimp only [List.set_cons_zero, List.set_cons_succ, Option.toList_some, Option.toList_none, List.cons_append, List.nil_append]
              refine AW.V k_2_101 ((hone k' rfl _ (i + 1) s b q1 hnx hbs (by omega))) rfl rfl rfl rfl rfl rfl (fun r1 m3 hq => ?_)
              obtain ⟨c2, rfl, hp2⟩ := hq
              rcases hp2 with ⟨i2, hq2, rfl, f1, f2, f3⟩ | ⟨e2, i2, s2, hq2, rfl, h2⟩
              · rw [hq2] at e0
                try dsimp only [List.set_cons_zero, List.set_cons_succ, Option.toList_some, Option.toList_none, List.cons_append, List.nil_append]
                refine AW.V k_2_91 ((c_closed (s := 0) (t := t) (k := 0) (by omega) ht ((q2.tr f3 (Nat.le_refl _)).at1 hP.2.1) (Or.inl rfl))) rfl rfl rfl rfl rfl rfl (fun r1 m4 hq => ?_)
                rcases hq with ⟨-, rfl, v, hm4⟩ | ⟨hne, -, -⟩
                · rw [hm4]
                  repeat refine AW.s rfl ?_
                  try dsimp only [List.set_cons_zero, List.set_cons_succ, Option.toList_some, Option.toList_none, List.cons_append, List.nil_append]
                  exact AW.ri rfl rfl rfl ⟨_, rfl, Or.inl ⟨i2, e0, rfl, f1, by rw [mUp_n (Or.inr (by decide))]; exact f2, (q2.tr f3 (Nat.le_refl _)).tr ⟨fun a h _ _ _ _ => mUp_a h, fun k _ h => mUp_n (Or.inr h), fun k _ => by rw [mUp_a (by omega)], fun k _ => by rw [mUp_a (by omega), mUp_a (by omega), mUp_a (by omega)]; exact ⟨rfl, rfl, rfl⟩⟩ (Nat.le_refl _)⟩⟩
                · exact absurd rfl hne
              · rw [hq2] at e0
                have h2' := h2
                obtain ⟨b1, b2, b3, b4, b5, b6, b7⟩ := h2'
                try dsimp only [List.set_cons_zero, List.set_cons_succ, Option.toList_some, Option.toList_none, List.cons_append, List.nil_append]
                refine AW.V k_2_91 ((c_closed (s := s2) (t := t) (k := o) (by omega) ht b6.2.1 (Or.inr ⟨b6.2.2.2.1, b6.2.2.2.2.2.1, by omega⟩))) rfl rfl rfl rfl rfl rfl (fun r1 m4 hq => ?_)
                rcases hq with ⟨hz, -, -⟩ | ⟨-, rfl, hm4⟩
                · exact absurd hz (nI_m1 (by omega))
                · rw [hm4]
                  repeat refine AW.s rfl ?_
                  try dsimp only [List.set_cons_zero, List.set_cons_succ, Option.toList_some, Option.toList_none, List.cons_append, List.nil_append]
                  exact AW.ri rfl rfl rfl ⟨_, rfl, Or.inr ⟨_, i2, s2 + 1, e0, rfl, PSuc.un (n := 10) ht hE hsi hbs (by decide) q2 h2⟩⟩
          · rw [hm2]
            have hk0 : k = 0 := by omega
            subst hk0
            have e0 : (pk 0).1 (ts.drop i) = (none, ts.drop i) := by
              show one0 (ts.drop i) = _
              unfold one0
              rw [if_neg (show ¬ hk (ts.drop i) = 2 from k2), if_neg (show ¬ hk (ts.drop i) = 3 from k3)]
            rw [e0]
            try dsimp only [List.set_cons_zero, List.set_cons_succ, Option.toList_some, Option.toList_none, List.cons_append, List.nil_append]
            refine AW.b rfl (fun hc => ?_) (fun hc => ?_)
            · repeat refine AW.s rfl ?_
              try dsimp only [List.set_cons_zero, List.set_cons_succ, Option.toList_some, Option.toList_none, List.cons_append, List.nil_append]
              exact AW.ri rfl rfl rfl ⟨_, rfl, Or.inl ⟨i, rfl, rfl, hi, hP.2.2.1, PXf.rf⟩⟩
            · exact absurd rfl hc
        · have e0 : (pk k).1 (ts.drop i) = (none, ts.drop i) := by
            rw [hone0 k45 k40]
            unfold one0
            rw [if_neg (show ¬ hk (ts.drop i) = 2 from k2), if_neg (show ¬ hk (ts.drop i) = 3 from k3)]
          rw [e0]
          refine AW.look (tgt := 98) rfl (by decide) (look4 k2 k3 k40 k45) (by decide) ?_
          repeat refine AW.s rfl ?_
          try dsimp only [List.set_cons_zero, List.set_cons_succ, Option.toList_some, Option.toList_none, List.cons_append, List.nil_append]
          exact AW.ri rfl rfl rfl ⟨_, rfl, Or.inl ⟨i, rfl, rfl, hi, hP.2.2.1, PXf.rf⟩⟩
theorem rd_E {l : Launch} {X : XT} {t o : Nat} {ts : List TK} {P : List TK → PR} (ht : t < 6) (hE : EOK ts) {D : Nat} (hD : 1 ≤ D) (h : ∀ d, D ≤ d → RDC l X t ts M_X2_readNot P o d) : ∀ d, D + 2 ≤ d → RDC l X t ts M_X2_readE (eP P) o d := by
  intro d hd
  obtain ⟨d, rfl⟩ : ∃ e, d = e + 1 + 1 := ⟨d - 2, by omega⟩
  exact c_readE (by omega) ht hE (c_readAnd (by omega) ht hE (h d (by omega)))
theorem rd_all {l : Launch} {X : XT} {t : Nat} {ts : List TK} (ht : t < 6) (hE : EOK ts) (hN : NOK ts) : ∀ k o, o + k = 5 → (∀ d, 10 * k + 3 ≤ d → RDC l X t ts M_X2_readOne (pk k).1 o d) ∧ (∀ d, 10 * k + 7 ≤ d → RDC l X t ts M_X2_readNot (pk k).2 o d) := by
  have step : ∀ k o, o + k = 5 → (∀ d, 10 * k + 3 ≤ d → RDC l X t ts M_X2_readOne (pk k).1 o d) → (∀ k', k = k' + 1 → ∀ d, 10 * k' + 7 ≤ d → RDC l X t ts M_X2_readNot (pk k').2 (o + 1) d) → ∀ d, 10 * k + 7 ≤ d → RDC l X t ts M_X2_readNot (pk k).2 o d := by
    intro k o ho h1 h2 d hd
    obtain ⟨d, rfl⟩ : ∃ e, d = e + 1 + 1 + 1 + 1 := ⟨d - 4, by omega⟩
    exact c_readNot (by omega) ht hE ho (c_readComparison (by omega) ht hE (c_readSum (by omega) ht hE (c_readTerm (by omega) ht hE (h1 d (by omega))))) (fun k' e => h2 k' e _ (by omega))
  intro k
  induction k with
  | zero =>
    intro o ho
    have h1 : ∀ d, 10 * 0 + 3 ≤ d → RDC l X t ts M_X2_readOne (pk 0).1 o d := by
      intro d hd
      obtain ⟨d, rfl⟩ : ∃ e, d = e + 1 := ⟨d - 1, by omega⟩
      exact c_readOne (by omega) ht hE hN ho (fun k' e => absurd e (by omega)) (fun k' e => absurd e (by omega))
    exact ⟨h1, step 0 o ho h1 (fun k' e => absurd e (by omega))⟩
  | succ k ih =>
    intro o ho
    obtain ⟨i1, i2⟩ := ih (o + 1) (by omega)
    have h1 : ∀ d, 10 * (k + 1) + 3 ≤ d → RDC l X t ts M_X2_readOne (pk (k + 1)).1 o d := by
      intro d hd
      obtain ⟨d, rfl⟩ : ∃ e, d = e + 1 := ⟨d - 1, by omega⟩
      refine c_readOne (by omega) ht hE hN ho (fun k' e => ?_) (fun k' e d' ed => ?_)
      · have : k = k' := by omega
        subst this
        exact i1 d (by omega)
      · have : k = k' := by omega
        subst this
        exact rd_E ht hE (D := 10 * k + 7) (by omega) i2 d' (by omega)
    refine ⟨h1, step (k + 1) o ho h1 (fun k' e => ?_)⟩
    have : k = k' := by omega
    subst this
    exact i2
