-- ===== the model: the next token =====
theorem ltI_1 {g : Nat → Int32} {s p : Nat} (hp : p < s) : ltI g s p = 1 ↔ 97 ≤ g p ∧ g p ≤ 122 := by
  unfold ltI
  rw [if_pos hp]
  by_cases h1 : g p < 97
  · rw [if_pos h1]
    exact ⟨fun q => absurd q (by decide), fun q => absurd h1 (Int32.not_lt.mpr q.1)⟩
  · rw [if_neg h1]
    by_cases h2 : 122 < g p
    · rw [if_pos h2]
      exact ⟨fun q => absurd q (by decide), fun q => absurd h2 (Int32.not_lt.mpr q.2)⟩
    · rw [if_neg h2]
      exact ⟨fun _ => ⟨Int32.not_lt.mp h1, Int32.not_lt.mp h2⟩, fun _ => rfl⟩
theorem dgI_1 {g : Nat → Int32} {s p : Nat} (hp : p < s) : dgI g s p = 1 ↔ 48 ≤ g p ∧ g p ≤ 57 := by
  unfold dgI
  rw [if_pos hp]
  by_cases h1 : g p < 48
  · rw [if_pos h1]
    exact ⟨fun q => absurd q (by decide), fun q => absurd h1 (Int32.not_lt.mpr q.1)⟩
  · rw [if_neg h1]
    by_cases h2 : 57 < g p
    · rw [if_pos h2]
      exact ⟨fun q => absurd q (by decide), fun q => absurd h2 (Int32.not_lt.mpr q.2)⟩
    · rw [if_neg h2]
      exact ⟨fun _ => ⟨Int32.not_lt.mp h1, Int32.not_lt.mp h2⟩, fun _ => rfl⟩
theorem ltI_0 {g : Nat → Int32} {s p : Nat} (h : ¬ ltI g s p = 1) : ltI g s p = 0 := by
  unfold ltI at h ⊢
  by_cases q : p < s
  · rw [if_pos q] at h ⊢
    by_cases z1 : g p < 97
    · rw [if_pos z1]
    · rw [if_neg z1] at h ⊢
      by_cases z2 : 122 < g p
      · rw [if_pos z2]
      · rw [if_neg z2] at h; exact absurd rfl h
  · rw [if_neg q]
theorem dgI_0 {g : Nat → Int32} {s p : Nat} (h : ¬ dgI g s p = 1) : dgI g s p = 0 := by
  unfold dgI at h ⊢
  by_cases q : p < s
  · rw [if_pos q] at h ⊢
    by_cases z1 : g p < 48
    · rw [if_pos z1]
    · rw [if_neg z1] at h ⊢
      by_cases z2 : 57 < g p
      · rw [if_pos z2]
      · rw [if_neg z2] at h; exact absurd rfl h
  · rw [if_neg q]
/-- after the next token has been read from p on -/
def NXT (m : Mem) (s q : Nat) (m' : Mem) : Prop := FK m m' ∧ m' 243 20 = nI q ∧ m' 243 17 = nI (tokF (m 251) s q).2.2 ∧ MTk (tokF (m 251) s q).1 (tokF (m 251) s q).2.1 (m' 243 18) (m' 243 19)
section
variable {l : Launch} {X : XT} {d s p : Nat} {m : Mem} {Ω : OM}
theorem c_MnextT (hd : 2 ≤ d) (hI9 : ∀ k, k < 53 → m 254 k = LTC.getD k 0) (hI10 : ∀ k, k < 13 → m 255 k = nI (BGN.getD k 0)) (hby : ∀ k, k < s → ∃ b, b < 256 ∧ m 251 k = nI b) (hs : m 243 12 = nI s) (hs1 : s ≤ 160) (hp : p ≤ s) (hat : m 243 17 = nI p) : Meth l X d M_X11_next [vR 12 243] m (fun r m' => r = none ∧ NXT m s (blF (m 251) (s - p) p) m') := by
  obtain ⟨d, rfl⟩ : ∃ e, d = e + 1 := ⟨d - 1, by omega⟩
  have hle := blF_le (m 251) (s - p) p
  -- behind the blanks
  have go : ∀ (m1 : Mem) (q : Nat), FK m m1 → m1 243 17 = nI q → q ≤ s → blF (m 251) (s - p) p = q → AW (GM l X (d + 1) M_X11_next (fun r m' => r = none ∧ NXT m s (blF (m 251) (s - p) p) m')) 52 [vR 12 243, vU] [] m1 := by
    intro m1 q g1 g3 hq hb
    rw [hb]
    have hs' : m1 243 12 = nI s := by rw [g1.2 12 (by decide) (by decide) (by decide) (by decide)]; exact hs
    have h251 : m1 251 = m 251 := g1.1 251 (by decide)
    repeat refine AW.u 60 rfl rfl ?_
    try dsimp only [List.set_cons_zero, List.set_cons_succ, Option.toList_some, Option.toList_none, List.cons_append, List.nil_append]
    rw [g3]
    have f2 : FK m (mUp m1 243 20 (nI q)) := g1.u (by omega)
    have a2 : mUp m1 243 20 (nI q) 243 17 = nI q := by rw [mUp_n (Or.inr (by decide))]; exact g3
    have p2 : mUp m1 243 20 (nI q) 243 20 = nI q := mUp_s _ _ _ _
    have s2 : mUp m1 243 20 (nI q) 243 12 = nI s := by rw [mUp_n (Or.inr (by decide))]; exact hs'
    have b2 : mUp m1 243 20 (nI q) 251 = m 251 := by rw [mUp_a (by decide)]; exact h251
    generalize mUp m1 243 20 (nI q) = m2 at *
    repeat refine AW.s rfl ?_
    try dsimp only [List.set_cons_zero, List.set_cons_succ, Option.toList_some, Option.toList_none, List.cons_append, List.nil_append]
    rw [a2, s2]
    refine AW.b rfl (fun hc => ?_) (fun hc => ?_)
    · have e : q = s := (nI_eq (by omega) (by omega)).mp hc
      subst e
      repeat refine AW.s rfl ?_
      try dsimp only [List.set_cons_zero, List.set_cons_succ, Option.toList_some, Option.toList_none, List.cons_append, List.nil_append]
      have e0 : tokF (m 251) q q = (0, 0, q) := by unfold tokF; rw [if_pos (Nat.le_refl _)]
      refine AW.rv rfl rfl ⟨rfl, by exact FK.u (k := 18) f2 (by omega), by rw [mUp_n (Or.inr (by decide))]; exact p2, by rw [mUp_n (Or.inr (by decide)), e0]; exact a2, by rw [e0]; exact Or.inl ⟨rfl, mUp_s _ _ _ _⟩⟩
    · have hlt : q < s := by
        have : ¬ q = s := fun z => hc (by rw [z])
        omega
      obtain ⟨b, hb256, eb⟩ := hby q hlt
      have e1 : tokF (m 251) s q = if 97 ≤ m 251 q ∧ m 251 q ≤ 122 then ((tokW (spF (m 251) q (wdF (m 251) (s - q) q) 12 0)).1, (tokW (spF (m 251) q (wdF (m 251) (s - q) q) 12 0)).2, wdF (m 251) (s - q) q)
        else if 48 ≤ m 251 q ∧ m 251 q ≤ 57 then (if 4 < (nbF (m 251) (s - q) q 0).1 - q then 1 else 2, (nbF (m 251) (s - q) q 0).2, (nbF (m 251) (s - q) q 0).1)
        else (if sgnB (m 251 q).toNatClampNeg then m 251 q else 1, 0, q + 1) := by unfold tokF; rw [if_neg (by omega)]
      repeat refine AW.s rfl ?_
      try dsimp only [List.set_cons_zero, List.set_cons_succ, Option.toList_some, Option.toList_none, List.cons_append, List.nil_append]
      rw [a2]
      refine AW.V k_11_75 ((c_MisLetter (s := s) (p := q) s2 hs1 hq)) rfl rfl rfl rfl rfl rfl (fun r1 m3 hq => ?_)
      obtain ⟨rfl, hm3⟩ := hq
      rw [hm3, b2]
      try dsimp only [List.set_cons_zero, List.set_cons_succ, Option.toList_some, Option.toList_none, List.cons_append, List.nil_append]
      by_cases z : ltI (m 251) s q = 1
      · rw [if_pos ((ltI_1 hlt).mp z)] at e1
        rw [z]
        refine AW.b rfl (fun hc => ?_) (fun hc => ?_)
        · exact absurd hc (by decide)
        · repeat refine AW.s rfl ?_
          try dsimp only [List.set_cons_zero, List.set_cons_succ, Option.toList_some, Option.toList_none, List.cons_append, List.nil_append]
          refine AW.V k_11_97 ((c_MreadWord (s := s) (p := q) (by omega) (by rw [f2.1 254 (by decide)]; exact hI9) (by rw [f2.1 255 (by decide)]; exact hI10) s2 hs1 (by omega) a2 p2)) rfl rfl rfl rfl rfl rfl (fun r1 m4 hq => ?_)
          obtain ⟨rfl, w1, w2, w3, w4⟩ := hq
          rw [b2] at w3 w4
          repeat refine AW.s rfl ?_
          try dsimp only [List.set_cons_zero, List.set_cons_succ, Option.toList_some, Option.toList_none, List.cons_append, List.nil_append]
          exact AW.rv rfl rfl ⟨rfl, f2.tr w1, w2, by rw [e1]; exact w3, by rw [e1]; exact w4⟩
      · rw [if_neg (fun y => z ((ltI_1 hlt).mpr y))] at e1
        rw [ltI_0 z]
        refine AW.b rfl (fun hc => ?_) (fun hc => ?_)
        · repeat refine AW.s rfl ?_
          try dsimp only [List.set_cons_zero, List.set_cons_succ, Option.toList_some, Option.toList_none, List.cons_append, List.nil_append]
          rw [a2]
          refine AW.V k_11_94 ((c_MisDigit (s := s) (p := q) s2 hs1 (by omega))) rfl rfl rfl rfl rfl rfl (fun r1 m4 hq => ?_)
          obtain ⟨rfl, hm4⟩ := hq
          rw [hm4, b2]
          try dsimp only [List.set_cons_zero, List.set_cons_succ, Option.toList_some, Option.toList_none, List.cons_append, List.nil_append]
          by_cases z2 : dgI (m 251) s q = 1
          · rw [if_pos ((dgI_1 hlt).mp z2)] at e1
            rw [z2]
            refine AW.b rfl (fun hc => ?_) (fun hc => ?_)
            · exact absurd hc (by decide)
            · repeat refine AW.s rfl ?_
              try dsimp only [List.set_cons_zero, List.set_cons_succ, Option.toList_some, Option.toList_none, List.cons_append, List.nil_append]
              refine AW.V k_11_101 ((c_MreadNumber (s := s) (p := q) (by omega) s2 hs1 (by omega) a2 p2)) rfl rfl rfl rfl rfl rfl (fun r1 m5 hq => ?_)
              obtain ⟨rfl, w1, w2, w3, w4⟩ := hq
              rw [b2] at w3 w4
              repeat refine AW.s rfl ?_
              try dsimp only [List.set_cons_zero, List.set_cons_succ, Option.toList_some, Option.toList_none, List.cons_append, List.nil_append]
              exact AW.rv rfl rfl ⟨rfl, f2.tr w1, w2, by rw [e1]; exact w3, by rw [e1]; exact w4⟩
          · rw [if_neg (fun y => z2 ((dgI_1 hlt).mpr y)), eb, nI_clamp (by omega)] at e1
            rw [dgI_0 z2]
            refine AW.b rfl (fun hc => ?_) (fun hc => ?_)
            · repeat refine AW.s rfl ?_
              try dsimp only [List.set_cons_zero, List.set_cons_succ, Option.toList_some, Option.toList_none, List.cons_append, List.nil_append]
              rw [a2]
              refine AW.c rfl (vp_in_nI (by omega) (by decide)) ?_
              try dsimp only [List.set_cons_zero, List.set_cons_succ, Option.toList_some, Option.toList_none, List.cons_append, List.nil_append]
              rw [nI_clamp (by omega), show m2 (243 + 8) q = nI b by rw [show (243 + 8 : Nat) = 251 from rfl, b2]; exact eb]
              repeat refine AW.u 128 rfl rfl ?_
              try dsimp only [List.set_cons_zero, List.set_cons_succ, Option.toList_some, Option.toList_none, List.cons_append, List.nil_append]
              have f3 : FK m (mUp m2 243 19 (nI b)) := f2.u (by omega)
              have w3 : mUp m2 243 19 (nI b) 243 19 = nI b := mUp_s _ _ _ _
              have a3 : mUp m2 243 19 (nI b) 243 17 = nI q := by rw [mUp_n (Or.inr (by decide))]; exact a2
              have p3 : mUp m2 243 19 (nI b) 243 20 = nI q := by rw [mUp_n (Or.inr (by decide))]; exact p2
              generalize mUp m2 243 19 (nI b) = m6 at *
              have gd : sgnB b = true → AW (GM l X (d + 1) M_X11_next (fun r m' => r = none ∧ NXT m s q m')) 200 [vR 12 243, vU] [] m6 := by
                intro hg
                rw [if_pos hg] at e1
                repeat refine AW.s rfl ?_
                try dsimp only [List.set_cons_zero, List.set_cons_succ, Option.toList_some, Option.toList_none, List.cons_append, List.nil_append]
                refine AW.b rfl (fun hc => ?_) (fun hc => ?_)
                · exact absurd (show (1 : Int32) = 0 from hc) (by decide)
                · repeat refine AW.s rfl ?_
                  try dsimp only [List.set_cons_zero, List.set_cons_succ, Option.toList_some, Option.toList_none, List.cons_append, List.nil_append]
                  rw [show mUp m6 243 18 4 243 17 = nI q by rw [mUp_n (Or.inr (by decide))]; exact a3, nI_1]
                  refine AW.rv rfl rfl ⟨rfl, by exact FK.u (k := 17) (FK.u (k := 18) f3 (by omega)) (by omega), by rw [mUp_n (Or.inr (by decide)), mUp_n (Or.inr (by decide))]; exact p3, by rw [e1]; exact mUp_s _ _ _ _, ?_⟩
                  rw [e1, mUp_n (Or.inr (by decide)), mUp_s, mUp_n (Or.inr (by decide)), mUp_n (Or.inr (by decide)), w3]
                  exact Or.inr (Or.inr (Or.inr (Or.inr (Or.inr ⟨b, hg, hb256, rfl, rfl, rfl⟩))))
              repeat refine AW.s rfl ?_
              try dsimp only [List.set_cons_zero, List.set_cons_succ, Option.toList_some, Option.toList_none, List.cons_append, List.nil_append]
              rw [w3]
              refine AW.b rfl (fun hc => ?_) (fun hc => ?_)
              · have e : b = 40 := (nI_eq (b := 40) (by omega) (by decide)).mp hc
                exact gd (by rw [e]; rfl)
              · have n40 : ¬ b = 40 := fun y => hc (by rw [y]; rfl)
                repeat refine AW.s rfl ?_
                try dsimp only [List.set_cons_zero, List.set_cons_succ, Option.toList_some, Option.toList_none, List.cons_append, List.nil_append]
                rw [w3]
                refine AW.b rfl (fun hc => ?_) (fun hc => ?_)
                · have e : b = 41 := (nI_eq (b := 41) (by omega) (by decide)).mp hc
                  exact gd (by rw [e]; rfl)
                · have n41 : ¬ b = 41 := fun y => hc (by rw [y]; rfl)
                  repeat refine AW.s rfl ?_
                  try dsimp only [List.set_cons_zero, List.set_cons_succ, Option.toList_some, Option.toList_none, List.cons_append, List.nil_append]
                  rw [w3]
                  refine AW.b rfl (fun hc => ?_) (fun hc => ?_)
                  · have e : b = 59 := (nI_eq (b := 59) (by omega) (by decide)).mp hc
                    exact gd (by rw [e]; rfl)
                  · have n59 : ¬ b = 59 := fun y => hc (by rw [y]; rfl)
                    repeat refine AW.s rfl ?_
                    try dsimp only [List.set_cons_zero, List.set_cons_succ, Option.toList_some, Option.toList_none, List.cons_append, List.nil_append]
                    rw [w3]
                    refine AW.b rfl (fun hc => ?_) (fun hc => ?_)
                    · have e : b = 43 := (nI_eq (b := 43) (by omega) (by decide)).mp hc
                      exact gd (by rw [e]; rfl)
                    · have n43 : ¬ b = 43 := fun y => hc (by rw [y]; rfl)
                      repeat refine AW.s rfl ?_
                      try dsimp only [List.set_cons_zero, List.set_cons_succ, Option.toList_some, Option.toList_none, List.cons_append, List.nil_append]
                      rw [w3]
                      refine AW.b rfl (fun hc => ?_) (fun hc => ?_)
                      · have e : b = 45 := (nI_eq (b := 45) (by omega) (by decide)).mp hc
                        exact gd (by rw [e]; rfl)
                      · have n45 : ¬ b = 45 := fun y => hc (by rw [y]; rfl)
                        repeat refine AW.s rfl ?_
                        try dsimp only [List.set_cons_zero, List.set_cons_succ, Option.toList_some, Option.toList_none, List.cons_append, List.nil_append]
                        rw [w3]
                        refine AW.b rfl (fun hc => ?_) (fun hc => ?_)
                        · have e : b = 42 := (nI_eq (b := 42) (by omega) (by decide)).mp hc
                          exact gd (by rw [e]; rfl)
                        · have n42 : ¬ b = 42 := fun y => hc (by rw [y]; rfl)
                          repeat refine AW.s rfl ?_
                          try dsimp only [List.set_cons_zero, List.set_cons_succ, Option.toList_some, Option.toList_none, List.cons_append, List.nil_append]
                          rw [w3]
                          refine AW.b rfl (fun hc => ?_) (fun hc => ?_)
                          · have e : b = 60 := (nI_eq (b := 60) (by omega) (by decide)).mp hc
                            exact gd (by rw [e]; rfl)
                          · have n60 : ¬ b = 60 := fun y => hc (by rw [y]; rfl)
                            repeat refine AW.s rfl ?_
                            try dsimp only [List.set_cons_zero, List.set_cons_succ, Option.toList_some, Option.toList_none, List.cons_append, List.nil_append]
                            rw [w3]
                            refine AW.b rfl (fun hc => ?_) (fun hc => ?_)
                            · have e : b = 61 := (nI_eq (b := 61) (by omega) (by decide)).mp hc
                              exact gd (by rw [e]; rfl)
                            · have n61 : ¬ b = 61 := fun y => hc (by rw [y]; rfl)
                              have hn : ¬ sgnB b = true := by
                                unfold sgnB
                                simp only [Bool.or_eq_true, beq_iff_eq]
                                omega
                              rw [if_neg hn] at e1
                              repeat refine AW.s rfl ?_
                              try dsimp only [List.set_cons_zero, List.set_cons_succ, Option.toList_some, Option.toList_none, List.cons_append, List.nil_append]
                              refine AW.b rfl (fun hc => ?_) (fun hc => ?_)
                              · repeat refine AW.s rfl ?_
                                try dsimp only [List.set_cons_zero, List.set_cons_succ, Option.toList_some, Option.toList_none, List.cons_append, List.nil_append]
                                rw [show mUp m6 243 18 6 243 17 = nI q by rw [mUp_n (Or.inr (by decide))]; exact a3, nI_1]
                                refine AW.rv rfl rfl ⟨rfl, by exact FK.u (k := 17) (FK.u (k := 18) f3 (by omega)) (by omega), by rw [mUp_n (Or.inr (by decide)), mUp_n (Or.inr (by decide))]; exact p3, by rw [e1]; exact mUp_s _ _ _ _, ?_⟩
                                rw [e1]
                                exact Or.inr (Or.inl ⟨rfl, by rw [mUp_n (Or.inr (by decide)), mUp_s]⟩)
                              · exact absurd rfl hc
            · exact absurd rfl hc
        · exact absurd rfl hc
  refine E_X11_next (ls := [vR 12 243, vU]) rfl rfl ?_
  refine AW.loop (pc := 0) (σ := Unit) (s - p) (fun i _ => [vR 12 243, vU]) (fun i _ m1 => FK m m1 ∧ m1 243 17 = nI (p + i) ∧ blF (m 251) (s - p) p = blF (m 251) (s - p - i) (p + i)) (fun i _ m1 hi hm1 ih => ?_) 0 () m (Nat.zero_le _) ⟨FK.rf, hat, rfl⟩
  obtain ⟨g1, g3, g5⟩ := hm1
  have hs' : m1 243 12 = nI s := by rw [g1.2 12 (by decide) (by decide) (by decide) (by decide)]; exact hs
  have h251 : ∀ k, m1 (243 + 8) k = m 251 k := fun k => congrFun (g1.1 251 (by decide)) k
  repeat refine AW.s rfl ?_
  try dsimp only [List.set_cons_zero, List.set_cons_succ, Option.toList_some, Option.toList_none, List.cons_append, List.nil_append]
  rw [g3, hs']
  refine AW.b rfl (fun hc => ?_) (fun hc => ?_)
  · have hlt : p + i < s := (nI_ltI (by omega) (by omega)).mp hc
    obtain ⟨f, hff⟩ : ∃ f, s - p - i = f + 1 := ⟨s - p - i - 1, by omega⟩
    rw [hff] at g5
    have g5 : blF (m 251) (s - p) p = if m 251 (p + i) = 32 ∨ m 251 (p + i) = 10 then blF (m 251) f (p + i + 1) else p + i := g5
    have nx : (m 251 (p + i) = 32 ∨ m 251 (p + i) = 10) → AW (GM l X (d + 1) M_X11_next (fun r m' => r = none ∧ NXT m s (blF (m 251) (s - p) p) m')) 39 [vR 12 243, vU] [] m1 := by
      intro hz
      rw [if_pos hz] at g5
      repeat refine AW.u 0 rfl rfl ?_
      try dsimp only [List.set_cons_zero, List.set_cons_succ, Option.toList_some, Option.toList_none, List.cons_append, List.nil_append]
      rw [g3, nI_1]
      exact ih () _ (by omega) ⟨by exact FK.u (k := 17) g1 (by omega), mUp_s _ _ _ _, by rw [g5, show s - p - (i + 1) = f by omega]; rfl⟩
    repeat refine AW.s rfl ?_
    try dsimp only [List.set_cons_zero, List.set_cons_succ, Option.toList_some, Option.toList_none, List.cons_append, List.nil_append]
    rw [g3]
    refine AW.c rfl (vp_in_nI (by omega) (by decide)) ?_
    try dsimp only [List.set_cons_zero, List.set_cons_succ, Option.toList_some, Option.toList_none, List.cons_append, List.nil_append]
    rw [nI_clamp (by omega), h251]
    repeat refine AW.s rfl ?_
    try dsimp only [List.set_cons_zero, List.set_cons_succ, Option.toList_some, Option.toList_none, List.cons_append, List.nil_append]
    refine AW.b rfl (fun hc => ?_) (fun hc => ?_)
    · exact nx (Or.inl hc)
    · have h32 := hc
      repeat refine AW.s rfl ?_
      try dsimp only [List.set_cons_zero, List.set_cons_succ, Option.toList_some, Option.toList_none, List.cons_append, List.nil_append]
      rw [g3]
      refine AW.c rfl (vp_in_nI (by omega) (by decide)) ?_
      try dsimp only [List.set_cons_zero, List.set_cons_succ, Option.toList_some, Option.toList_none, List.cons_append, List.nil_append]
      rw [nI_clamp (by omega), h251]
      repeat refine AW.s rfl ?_
      try dsimp only [List.set_cons_zero, List.set_cons_succ, Option.toList_some, Option.toList_none, List.cons_append, List.nil_append]
      refine AW.b rfl (fun hc => ?_) (fun hc => ?_)
      · exact nx (Or.inr hc)
      · rw [if_neg (fun z => z.elim h32 hc)] at g5
        exact go m1 (p + i) g1 g3 (by omega) g5
  · have hge : s = p + i := by
      have : ¬ p + i < s := fun q => hc (nI_lt q (by omega))
      omega
    rw [show s - p - i = 0 by omega] at g5
    exact go m1 (p + i) g1 g3 (by omega) g5
end
