theorem RepS.uL {m m' : Mem} {σ : Sg} {w i c : Nat} (hs : RepS m 1 σ) (hw8 : σ 0 1 ≤ 8) (hw : w < 8) (h1 : ∀ a, 1 ≤ a → a ≤ 17 → a ≠ 1 + 2 + w → m' a = m a) (h2 : m' (1 + 2 + w) = upd (m (1 + 2 + w)) i (nI c)) : RepS m' 1 (sU σ (10 + w) i c) := by
  obtain ⟨g1, g2, g3, g4, g5, g7, g8, g9⟩ := hs
  have gn : ∀ a k, a ≠ 10 + w → sU σ (10 + w) i c a k = σ a k := fun _ _ e => sU_n (Or.inl e)
  unfold RepS
  rw [gn 0 0 (by omega), gn 0 1 (by omega), gn 0 2 (by omega), gn 0 3 (by omega), gn 0 4 (by omega), h1 1 (by omega) (by omega) (by omega), h1 (1 + 15) (by omega) (by omega) (by omega), h1 (1 + 16) (by omega) (by omega) (by omega), h1 (1 + 10) (by omega) (by omega) (by omega), h1 (1 + 11) (by omega) (by omega) (by omega), h1 (1 + 12) (by omega) (by omega) (by omega), h1 (1 + 13) (by omega) (by omega) (by omega), h1 (1 + 14) (by omega) (by omega) (by omega)]
  refine ⟨g1, g2, g3, g4, fun v hv => ?_, fun r hr => ?_, g8, fun j hj => ?_⟩
  · obtain ⟨y1, y2, y3⟩ := g5 v hv
    rw [gn 1 v (by omega), gn 2 v (by omega)]
    refine ⟨y1, y2, fun k hk => ?_⟩
    by_cases e : v = w
    · subst e
      rw [h2]
      by_cases e2 : k = i
      · subst e2
        rw [sU_s]
        exact if_pos rfl
      · rw [sU_n (Or.inr e2)]
        exact (if_neg e2).trans (y3 k hk)
    · rw [h1 _ (by omega) (by omega) (by omega), gn _ _ (by omega)]
      exact y3 k hk
  · rw [gn 3 r (by omega), gn 4 r (by omega), gn 5 r (by omega)]
    exact g7 r hr
  · rw [gn 6 j (by omega)]
    exact g9 j hj
theorem WF.uL {σ : Sg} (h : WF σ) {w i c : Nat} (hc : c < 26) : WF (sU σ (10 + w) i c) := by
  obtain ⟨h1, h2, h3, h4, h5, h6, h7, h8⟩ := h
  have gn : ∀ a k, a ≠ 10 + w → sU σ (10 + w) i c a k = σ a k := fun _ _ e => sU_n (Or.inl e)
  unfold WF
  rw [gn 0 0 (by omega), gn 0 1 (by omega), gn 0 2 (by omega), gn 0 3 (by omega), gn 0 4 (by omega)]
  refine ⟨h1, h2, h3, h4, h5, fun v hv => ?_, fun r hr => ?_, fun j hj => ?_⟩
  · obtain ⟨y1, y2, y3, y4⟩ := h6 v hv
    rw [gn 1 v (by omega), gn 2 v (by omega)]
    refine ⟨y1, y2, y3, fun k hk => ?_⟩
    by_cases e : 10 + v = 10 + w ∧ k = i
    · obtain ⟨e1, rfl⟩ := e
      rw [e1, sU_s]
      exact hc
    · rw [sU_n (by omega)]
      exact y4 k hk
  · rw [gn 3 r (by omega), gn 4 r (by omega), gn 5 r (by omega)]
    exact h7 r hr
  · rw [gn 6 j (by omega)]
    exact h8 j hj
/-- no other letter there makes a word sound like another -/
def safeC (σ : Sg) (w i c : Nat) : Prop := c = σ (10 + w) i ∨ ¬ ∃ j, j < σ 0 1 ∧ j ≠ w ∧ likeO (saidS (sU σ (10 + w) i c) (rowL σ) w) (saidS σ (rowL σ) j) = true
theorem c_isSafe {l : Launch} {X : XT} {d : Nat} {w i : Nat} {m : Mem} {σ : Sg} (hd : 5 ≤ d) (hs : RepS m 1 σ) (hσ : WF σ) (hw : w < σ 0 1) (hi : i < σ 1 w) (hY : RepYs m 43 (σ 0 1) (saidS σ (rowL σ))) : Meth l X d M_X10_isSafe [vR 11 0, vI (nI w), vI (nI i)] m (fun r m' => ∃ b : Bool, r = some (vI (if b then 1 else 0)) ∧ (b = true ↔ ∀ c, c < 26 → safeC σ w i c) ∧ ∀ a, a ≠ 61 → a ≠ 62 → m' a = m a) := by
  obtain ⟨d, rfl⟩ : ∃ e, d = e + 1 := ⟨d - 1, by omega⟩
  have h8 := hσ.2.1
  obtain ⟨z1, z2, -, z4⟩ := hσ.2.2.2.2.2.1 w hw
  have zi := z4 i hi
  have y3 : m (1 + 2 + w) i = nI (σ (10 + w) i) := (hs.2.2.2.2.1 w hw).2.2 i hi
  refine E_X10_isSafe (ls := [vR 11 0, vI (nI w), vI (nI i), vU, vU, vU, vU]) rfl rfl ?_
  repeat refine AW.s rfl ?_
  try dsimp only [List.set_cons_zero, List.set_cons_succ, Option.toList_some, Option.toList_none, List.cons_append, List.nil_append]
  refine AW.c rfl (vp_in_nI (by omega) (by decide)) ?_
  try dsimp only [List.set_cons_zero, List.set_cons_succ, Option.toList_some, Option.toList_none, List.cons_append, List.nil_append]
  rw [nI_clamp (by omega), show 0 + 1 + 1 + 1 + 1 * w = 1 + 2 + w by omega]
  repeat refine AW.s rfl ?_
  try dsimp only [List.set_cons_zero, List.set_cons_succ, Option.toList_some, Option.toList_none, List.cons_append, List.nil_append]
  refine AW.c rfl (vp_in_nI (by omega) (by decide)) ?_
  try dsimp only [List.set_cons_zero, List.set_cons_succ, Option.toList_some, Option.toList_none, List.cons_append, List.nil_append]
  rw [nI_clamp (by omega), y3]
  repeat refine AW.u 21 rfl rfl ?_
  try dsimp only [List.set_cons_zero, List.set_cons_succ, Option.toList_some, Option.toList_none, List.cons_append, List.nil_append]
  refine AW.loop (pc := 21) (σ := Bool) 26 (fun c b => [vR 11 0, vI (nI w), vI (nI i), vR 1010 (1 + 2 + w), vI (nI (σ (10 + w) i)), vI (if b then 1 else 0), vI (nI c)]) (fun c b m1 => (∀ a, a ≠ 61 → a ≠ 62 → a ≠ 1 + 2 + w → m1 a = m a) ∧ (∃ v, m1 (1 + 2 + w) = upd (m (1 + 2 + w)) i v) ∧ (b = true → ∀ c', c' < c → safeC σ w i c') ∧ (b = false → ¬ ∀ c, c < 26 → safeC σ w i c)) (fun c b m1 hc26 hm1 ih => ?_) 0 true m (Nat.zero_le _) ⟨fun _ _ _ _ => rfl, ⟨m (1 + 2 + w) i, ?_⟩, fun _ c' hc' => absurd hc' (by omega), fun z => by cases z⟩
  · obtain ⟨hf, ⟨v, hv⟩, hb1, hb0⟩ := hm1
    have hend : ∀ b : Bool, (b = true ↔ ∀ c, c < 26 → safeC σ w i c) → AW (GM l X (d + 1) M_X10_isSafe (fun r m' => ∃ b : Bool, r = some (vI (if b then 1 else 0)) ∧ (b = true ↔ ∀ c, c < 26 → safeC σ w i c) ∧ ∀ a, a ≠ 61 → a ≠ 62 → m' a = m a)) 92 [vR 11 0, vI (nI w), vI (nI i), vR 1010 (1 + 2 + w), vI (nI (σ (10 + w) i)), vI (if b then 1 else 0), vI (nI c)] [] m1 := by
      intro b hb
      repeat refine AW.s rfl ?_
      try dsimp only [List.set_cons_zero, List.set_cons_succ, Option.toList_some, Option.toList_none, List.cons_append, List.nil_append]
      refine AW.c rfl (⟨vp_in_nI (by omega) (by decide), fun z => absurd z (by decide)⟩) ?_
      try dsimp only [List.set_cons_zero, List.set_cons_succ, Option.toList_some, Option.toList_none, List.cons_append, List.nil_append]
      rw [nI_clamp (by omega)]
      repeat refine AW.s rfl ?_
      try dsimp only [List.set_cons_zero, List.set_cons_succ, Option.toList_some, Option.toList_none, List.cons_append, List.nil_append]
      refine AW.ri rfl rfl (by cases b <;> rfl) ⟨b, rfl, hb, fun a e1 e2 => ?_⟩
      by_cases e : a = 1 + 2 + w
      · subst e
        rw [mUp_row, hv]
        funext k
        by_cases e3 : k = i
        · subst e3
          exact (if_pos rfl).trans y3.symm
        · exact (if_neg e3).trans (if_neg e3)
      · rw [mUp_a e]
        exact hf a e1 e2 e
    repeat refine AW.s rfl ?_
    try dsimp only [List.set_cons_zero, List.set_cons_succ, Option.toList_some, Option.toList_none, List.cons_append, List.nil_append]
    refine AW.b rfl (fun hc => ?_) (fun hc => ?_)
    · have hlt : c < 26 := (nI_ltI (b := 26) (by omega) (by decide)).mp hc
      repeat refine AW.s rfl ?_
      try dsimp only [List.set_cons_zero, List.set_cons_succ, Option.toList_some, Option.toList_none, List.cons_append, List.nil_append]
      cases b with
      | false =>
        refine AW.b rfl (fun hc => ?_) (fun hc => ?_)
        · exact hend false ⟨fun z => (by cases z), fun z => absurd z (hb0 rfl)⟩
        · exact absurd rfl hc
      | true =>
        refine AW.b rfl (fun hc => ?_) (fun hc => ?_)
        · exact absurd hc (by decide)
        · repeat refine AW.s rfl ?_
          try dsimp only [List.set_cons_zero, List.set_cons_succ, Option.toList_some, Option.toList_none, List.cons_append, List.nil_append]
          refine AW.b rfl (fun hc => ?_) (fun hc => ?_)
          · have ec : c = σ (10 + w) i := (nI_eq (by omega) (by omega)).mp hc
            repeat refine AW.u 21 rfl rfl ?_
            try dsimp only [List.set_cons_zero, List.set_cons_succ, Option.toList_some, Option.toList_none, List.cons_append, List.nil_append]
            rw [nI_1]
            refine ih true _ hlt ⟨hf, ⟨v, hv⟩, fun _ c' hc' => ?_, fun z => (by cases z)⟩
            by_cases e : c' = c
            · subst e; exact Or.inl ec
            · exact hb1 rfl c' (by omega)
          · have ec : ¬ c = σ (10 + w) i := fun q => hc (by rw [q])
            repeat refine AW.s rfl ?_
            try dsimp only [List.set_cons_zero, List.set_cons_succ, Option.toList_some, Option.toList_none, List.cons_append, List.nil_append]
            refine AW.c rfl (⟨vp_in_nI (by omega) (by decide), fun z => absurd z (by decide)⟩) ?_
            try dsimp only [List.set_cons_zero, List.set_cons_succ, Option.toList_some, Option.toList_none, List.cons_append, List.nil_append]
            rw [nI_clamp (by omega)]
            generalize hm2 : mUp m1 (1 + 2 + w) i (nI c) = m2
            have f2 : ∀ a, a ≠ 61 → a ≠ 62 → a ≠ 1 + 2 + w → m2 a = m a := fun a e1 e2 e3 => by rw [← hm2, mUp_a e3]; exact hf a e1 e2 e3
            have r2 : m2 (1 + 2 + w) = upd (m (1 + 2 + w)) i (nI c) := by
              rw [← hm2, mUp_row, hv]
              funext k
              by_cases e3 : k = i
              · exact (if_pos e3).trans (if_pos e3).symm
              · exact (if_neg e3).trans ((if_neg e3).trans (if_neg e3).symm)
            have hs2 : RepS m2 1 (sU σ (10 + w) i c) := hs.uL h8 (by omega) (fun a e1 e2 e3 => f2 a (by omega) (by omega) e3) r2
            have hσ2 : WF (sU σ (10 + w) i c) := hσ.uL hlt
            have e01 : sU σ (10 + w) i c 0 1 = σ 0 1 := sU_n (Or.inl (by omega))
            have e02 : sU σ (10 + w) i c 0 2 = σ 0 2 := sU_n (Or.inl (by omega))
            have hrw2 : WFr (sU σ (10 + w) i c) (rowL σ) := ⟨(rowL_wf hσ).1, fun r hr => by rw [e02]; exact (rowL_wf hσ).2 r hr⟩
            have hρ2 : RepR m2 16 (rowL σ) := hs.row.fr (f2 _ (by decide) (by decide) (by omega)) (f2 _ (by decide) (by decide) (by omega))
            repeat refine AW.s rfl ?_
            try dsimp only [List.set_cons_zero, List.set_cons_succ, Option.toList_some, Option.toList_none, List.cons_append, List.nil_append]
            refine AW.V k_10_185 ((c_say (h := 61) (ρ := 16) (rw := rowL σ) (by omega) hs2 hσ2 hrw2 hρ2 (by rw [e01]; exact hw) (by decide) (by decide))) rfl rfl rfl rfl rfl rfl (fun r1 m3 hq => ?_)
            obtain ⟨rfl, p1, p2⟩ := hq
            have f3 : ∀ a, a ≠ 61 → a ≠ 62 → a ≠ 1 + 2 + w → m3 a = m a := fun a e1 e2 e3 => by rw [p2 a e1 e2]; exact f2 a e1 e2 e3
            repeat refine AW.s rfl ?_
            try dsimp only [List.set_cons_zero, List.set_cons_succ, Option.toList_some, Option.toList_none, List.cons_append, List.nil_append]
            refine AW.V k_10_358 ((c_hasAnother (H := 43) (g := 61) (n := σ 0 1) (by omega) h8 hw (hY.fr h8 (fun a e1 e2 => f3 a (by omega) (by omega) (by omega))) (fun v hv => saidS_wf hσ (rowL_wf hσ) hv) p1 (saidS_wf hσ2 hrw2 (by rw [e01]; exact hw)))) rfl rfl rfl rfl rfl rfl (fun r1 m4 hq => ?_)
            obtain ⟨b2, rfl, hb2, hm4⟩ := hq
            rw [hm4]
            try dsimp only [List.set_cons_zero, List.set_cons_succ, Option.toList_some, Option.toList_none, List.cons_append, List.nil_append]
            have r3 : ∃ v, m3 (1 + 2 + w) = upd (m (1 + 2 + w)) i v := ⟨nI c, by rw [p2 _ (by omega) (by omega)]; exact r2⟩
            cases b2 with
            | true =>
              refine AW.b rfl (fun hc => ?_) (fun hc => ?_)
              · exact absurd hc (by decide)
              · repeat refine AW.u 21 rfl rfl ?_
                try dsimp only [List.set_cons_zero, List.set_cons_succ, Option.toList_some, Option.toList_none, List.cons_append, List.nil_append]
                rw [nI_1]
                exact ih false _ hlt ⟨f3, r3, fun z => (by cases z), fun _ z => (z c hlt).elim ec (fun q => q (hb2.mp rfl))⟩
            | false =>
              refine AW.b rfl (fun hc => ?_) (fun hc => ?_)
              · repeat refine AW.u 21 rfl rfl ?_
                try dsimp only [List.set_cons_zero, List.set_cons_succ, Option.toList_some, Option.toList_none, List.cons_append, List.nil_append]
                rw [nI_1]
                refine ih true _ hlt ⟨f3, r3, fun _ c' hc' => ?_, fun z => (by cases z)⟩
                by_cases e : c' = c
                · subst e; exact Or.inr (fun q => absurd (hb2.mpr q) (by decide))
                · exact hb1 rfl c' (by omega)
              · exact absurd rfl hc
    · have : c = 26 := by
        have : ¬ c < 26 := fun q => hc (nI_lt (b := 26) q (by decide))
        omega
      subst this
      exact hend b ⟨fun z => hb1 z, fun z => by
        cases b with
        | true => rfl
        | false => exact absurd z (hb0 rfl)⟩
  · funext k
    by_cases e3 : k = i
    · subst e3; exact (if_pos rfl).symm
    · exact (if_neg e3).symm
