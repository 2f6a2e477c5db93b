-- ===== the model: told, set, sheet, cell, copy, rules =====
section
variable {l : Launch} {X : XT} {d : Nat} {m : Mem} {Ω : OM}
theorem tX0 {a : Int32} : toldX Ω a 0 = nI ((oG Ω) 0 0) := by
  unfold toldX
  rw [if_neg (by decide), if_neg (by decide), if_pos (show hpB (oG Ω) 0 a = 1 from if_pos rfl)]
  rfl
theorem tX1 {a : Int32} : toldX Ω a 1 = if hB a ((oG Ω) 0 1) = 1 then nI ((oG Ω) 2 a.toNatClampNeg) else -100 := by
  unfold toldX
  rw [if_neg (by decide), if_neg (by decide), show hpB (oG Ω) 1 a = hB a ((oG Ω) 0 1) by unfold hpB; rw [if_neg (by decide), if_pos rfl]]
  rfl
theorem tX2 {a : Int32} : toldX Ω a 2 = if hB a ((oG Ω) 0 2) = 1 then nI ((oG Ω) 4 a.toNatClampNeg) else -100 := by
  unfold toldX
  rw [if_neg (by decide), if_neg (by decide), show hpB (oG Ω) 2 a = hB a ((oG Ω) 0 2) by unfold hpB; rw [if_neg (by decide), if_neg (by decide), if_pos (Or.inl rfl)]]
  rfl
theorem tX3 {a : Int32} : toldX Ω a 3 = if hB a ((oG Ω) 0 2) = 1 then nI ((oG Ω) 5 a.toNatClampNeg) else -100 := by
  unfold toldX
  rw [if_neg (by decide), if_neg (by decide), show hpB (oG Ω) 3 a = hB a ((oG Ω) 0 2) by unfold hpB; rw [if_neg (by decide), if_neg (by decide), if_pos (Or.inr rfl)]]
  rfl
theorem tX4 {a : Int32} : toldX Ω a 4 = if hB a ((oG Ω) 0 3) = 1 then nI ((oG Ω) 6 a.toNatClampNeg) else -100 := by
  unfold toldX
  rw [if_neg (by decide), if_neg (by decide), show hpB (oG Ω) 4 a = hB a ((oG Ω) 0 3) by unfold hpB; rw [if_neg (by decide), if_neg (by decide), if_neg (by decide), if_pos rfl]]
  rfl
theorem tX5 {a : Int32} : toldX Ω a 5 = if hB a ((oG Ω) 0 2) = 1 then nI ((oG Ω) 3 a.toNatClampNeg) else -100 := if_pos rfl
theorem tX6 {a : Int32} : toldX Ω a 6 = if hB a ((oG Ω) 0 1) = 1 then nI ((oG Ω) 1 a.toNatClampNeg) else -100 := by unfold toldX; rw [if_neg (by decide), if_pos rfl]
theorem tXo {a b : Int32} (h : ∀ p, p ≤ 6 → ¬ b = nI p) : toldX Ω a b = -100 := by
  unfold toldX
  have h0 : ¬ b = 0 := h 0 (by decide)
  have h1 : ¬ b = 1 := h 1 (by decide)
  have h2 : ¬ b = 2 := h 2 (by decide)
  have h3 : ¬ b = 3 := h 3 (by decide)
  have h4 : ¬ b = 4 := h 4 (by decide)
  have h5 : ¬ b = 5 := h 5 (by decide)
  have h6 : ¬ b = 6 := h 6 (by decide)
  rw [if_neg h5, if_neg h6, if_neg]
  unfold hpB
  rw [if_neg h0, if_neg h1, if_neg (fun q => q.elim h2 h3), if_neg h4]
  decide
theorem M_told {a b : Int32} (hd : 5 ≤ d) (hW : WO Ω) (hI : InvM m Ω) : Meth l X d M_X11_told [vR 12 243, vI a, vI b] m (fun r m' => r = some (vI (toldF Ω a b)) ∧ m' = m) := by
  obtain ⟨d, rfl⟩ : ∃ e, d = e + 1 := ⟨d - 1, by omega⟩
  have h1 := hW.1.2.1
  have h2 := hW.1.2.2.1
  have h3 := hW.1.2.2.2.1
  have tl : ∀ b : Int32, b < 10 → toldF Ω a b = toldX Ω a b := fun b h => if_pos h
  refine E_X11_told (ls := [vR 12 243, vI a, vI b]) rfl rfl ?_
  repeat refine AW.s rfl ?_
  try dsimp only [List.set_cons_zero, List.set_cons_succ, Option.toList_some, Option.toList_none, List.cons_append, List.nil_append]
  by_cases b0 : b = nI 0
  · subst b0
    rw [tl _ (by decide), show toldX Ω a (nI 0) = _ from tX0]
    refine AW.tin (tgt := 44) rfl (by decide) (by decide) rfl (by decide) ?_
    repeat refine AW.s rfl ?_
    try dsimp only [List.set_cons_zero, List.set_cons_succ, Option.toList_some, Option.toList_none, List.cons_append, List.nil_append]
    rw [show m 243 0 = nI ((oG Ω) 0 0) from hI.1.1]
    exact AW.ri rfl rfl rfl ⟨rfl, rfl⟩
  · by_cases b1 : b = nI 1
    · subst b1
      rw [tl _ (by decide), show toldX Ω a (nI 1) = _ from tX1]
      refine AW.tin (tgt := 49) rfl (by decide) (by decide) rfl (by decide) ?_
      repeat refine AW.s rfl ?_
      try dsimp only [List.set_cons_zero, List.set_cons_succ, Option.toList_some, Option.toList_none, List.cons_append, List.nil_append]
      refine AW.V k_11_58 ((c_Mword (by omega) hI.1 hW.1)) rfl rfl rfl rfl rfl rfl (fun r1 m9 hq => ?_)
      obtain ⟨rfl, hm9⟩ := hq
      rw [hm9]
      try dsimp only [List.set_cons_zero, List.set_cons_succ, Option.toList_some, Option.toList_none, List.cons_append, List.nil_append]
      by_cases q : hB a ((oG Ω) 0 1) = 1
      · rw [q, if_pos rfl]
        obtain ⟨w, hw, rfl⟩ := (hB_1 (by omega)).mp q
        refine AW.b rfl (fun hc => ?_) (fun hc => ?_)
        · exact absurd hc (by decide)
        · repeat refine AW.s rfl ?_
          try dsimp only [List.set_cons_zero, List.set_cons_succ, Option.toList_some, Option.toList_none, List.cons_append, List.nil_append]
          refine AW.c rfl (vp_in_nI (by omega) (by decide)) ?_
          try dsimp only [List.set_cons_zero, List.set_cons_succ, Option.toList_some, Option.toList_none, List.cons_append, List.nil_append]
          rw [nI_clamp (by omega), show m (243 + 3) w = nI ((oG Ω) 2 w) from (hI.1.2.2.2.2.2.1 w hw).2.1]
          repeat refine AW.s rfl ?_
          try dsimp only [List.set_cons_zero, List.set_cons_succ, Option.toList_some, Option.toList_none, List.cons_append, List.nil_append]
          exact AW.ri rfl rfl rfl ⟨rfl, rfl⟩
      · rw [hB_0 q, if_neg (by decide)]
        refine AW.b rfl (fun hc => ?_) (fun hc => ?_)
        · repeat refine AW.s rfl ?_
          try dsimp only [List.set_cons_zero, List.set_cons_succ, Option.toList_some, Option.toList_none, List.cons_append, List.nil_append]
          exact AW.ri rfl rfl rfl ⟨rfl, rfl⟩
        · exact absurd rfl hc
    · by_cases b2 : b = nI 2
      · subst b2
        rw [tl _ (by decide), show toldX Ω a (nI 2) = _ from tX2]
        refine AW.tin (tgt := 69) rfl (by decide) (by decide) rfl (by decide) ?_
        repeat refine AW.s rfl ?_
        try dsimp only [List.set_cons_zero, List.set_cons_succ, Option.toList_some, Option.toList_none, List.cons_append, List.nil_append]
        refine AW.V k_11_46 ((c_Mrule (by omega) hI.1 hW.1)) rfl rfl rfl rfl rfl rfl (fun r1 m9 hq => ?_)
        obtain ⟨rfl, hm9⟩ := hq
        rw [hm9]
        try dsimp only [List.set_cons_zero, List.set_cons_succ, Option.toList_some, Option.toList_none, List.cons_append, List.nil_append]
        by_cases q : hB a ((oG Ω) 0 2) = 1
        · rw [q, if_pos rfl]
          obtain ⟨w, hw, rfl⟩ := (hB_1 (by omega)).mp q
          refine AW.b rfl (fun hc => ?_) (fun hc => ?_)
          · exact absurd hc (by decide)
          · repeat refine AW.s rfl ?_
            try dsimp only [List.set_cons_zero, List.set_cons_succ, Option.toList_some, Option.toList_none, List.cons_append, List.nil_append]
            refine AW.c rfl (vp_in_nI (by omega) (by decide)) ?_
            try dsimp only [List.set_cons_zero, List.set_cons_succ, Option.toList_some, Option.toList_none, List.cons_append, List.nil_append]
            rw [nI_clamp (by omega), show m (243 + 5) w = nI ((oG Ω) 4 w) from (hI.1.2.2.2.2.2.2.1 w hw).2.1]
            repeat refine AW.s rfl ?_
            try dsimp only [List.set_cons_zero, List.set_cons_succ, Option.toList_some, Option.toList_none, List.cons_append, List.nil_append]
            exact AW.ri rfl rfl rfl ⟨rfl, rfl⟩
        · rw [hB_0 q, if_neg (by decide)]
          refine AW.b rfl (fun hc => ?_) (fun hc => ?_)
          · repeat refine AW.s rfl ?_
            try dsimp only [List.set_cons_zero, List.set_cons_succ, Option.toList_some, Option.toList_none, List.cons_append, List.nil_append]
            exact AW.ri rfl rfl rfl ⟨rfl, rfl⟩
          · exact absurd rfl hc
      · by_cases b3 : b = nI 3
        · subst b3
          rw [tl _ (by decide), show toldX Ω a (nI 3) = _ from tX3]
          refine AW.tin (tgt := 89) rfl (by decide) (by decide) rfl (by decide) ?_
          repeat refine AW.s rfl ?_
          try dsimp only [List.set_cons_zero, List.set_cons_succ, Option.toList_some, Option.toList_none, List.cons_append, List.nil_append]
          refine AW.V k_11_46 ((c_Mrule (by omega) hI.1 hW.1)) rfl rfl rfl rfl rfl rfl (fun r1 m9 hq => ?_)
          obtain ⟨rfl, hm9⟩ := hq
          rw [hm9]
          try dsimp only [List.set_cons_zero, List.set_cons_succ, Option.toList_some, Option.toList_none, List.cons_append, List.nil_append]
          by_cases q : hB a ((oG Ω) 0 2) = 1
          · rw [q, if_pos rfl]
            obtain ⟨w, hw, rfl⟩ := (hB_1 (by omega)).mp q
            refine AW.b rfl (fun hc => ?_) (fun hc => ?_)
            · exact absurd hc (by decide)
            · repeat refine AW.s rfl ?_
              try dsimp only [List.set_cons_zero, List.set_cons_succ, Option.toList_some, Option.toList_none, List.cons_append, List.nil_append]
              refine AW.c rfl (vp_in_nI (by omega) (by decide)) ?_
              try dsimp only [List.set_cons_zero, List.set_cons_succ, Option.toList_some, Option.toList_none, List.cons_append, List.nil_append]
              rw [nI_clamp (by omega), show m (243 + 6) w = nI ((oG Ω) 5 w) from (hI.1.2.2.2.2.2.2.1 w hw).2.2]
              repeat refine AW.s rfl ?_
              try dsimp only [List.set_cons_zero, List.set_cons_succ, Option.toList_some, Option.toList_none, List.cons_append, List.nil_append]
              exact AW.ri rfl rfl rfl ⟨rfl, rfl⟩
          · rw [hB_0 q, if_neg (by decide)]
            refine AW.b rfl (fun hc => ?_) (fun hc => ?_)
            · repeat refine AW.s rfl ?_
              try dsimp only [List.set_cons_zero, List.set_cons_succ, Option.toList_some, Option.toList_none, List.cons_append, List.nil_append]
              exact AW.ri rfl rfl rfl ⟨rfl, rfl⟩
            · exact absurd rfl hc
        · by_cases b4 : b = nI 4
          · subst b4
            rw [tl _ (by decide), show toldX Ω a (nI 4) = _ from tX4]
            refine AW.tin (tgt := 109) rfl (by decide) (by decide) rfl (by decide) ?_
            repeat refine AW.s rfl ?_
            try dsimp only [List.set_cons_zero, List.set_cons_succ, Option.toList_some, Option.toList_none, List.cons_append, List.nil_append]
            rw [show m 243 9 = nI ((oG Ω) 0 3) from hI.1.2.2.2.1]
            refine AW.S k_11_7 (c_isIn) rfl rfl rfl rfl (fun r1 m9 hq => ?_)
            obtain ⟨rfl, hm9⟩ := hq
            rw [hm9, show (if a < 0 then (0 : Int32) else if nI ((oG Ω) 0 3) - 1 < a then 0 else 1) = hB a ((oG Ω) 0 3) from inB_hB (by omega)]
            try dsimp only [List.set_cons_zero, List.set_cons_succ, Option.toList_some, Option.toList_none, List.cons_append, List.nil_append]
            by_cases q : hB a ((oG Ω) 0 3) = 1
            · rw [q, if_pos rfl]
              obtain ⟨w, hw, rfl⟩ := (hB_1 (by omega)).mp q
              refine AW.b rfl (fun hc => ?_) (fun hc => ?_)
              · exact absurd hc (by decide)
              · repeat refine AW.s rfl ?_
                try dsimp only [List.set_cons_zero, List.set_cons_succ, Option.toList_some, Option.toList_none, List.cons_append, List.nil_append]
                refine AW.c rfl (vp_in_nI (by omega) (by decide)) ?_
                try dsimp only [List.set_cons_zero, List.set_cons_succ, Option.toList_some, Option.toList_none, List.cons_append, List.nil_append]
                rw [nI_clamp (by omega), show m (243 + 7) w = nI ((oG Ω) 6 w) from hI.1.2.2.2.2.2.2.2 w hw]
                repeat refine AW.s rfl ?_
                try dsimp only [List.set_cons_zero, List.set_cons_succ, Option.toList_some, Option.toList_none, List.cons_append, List.nil_append]
                exact AW.ri rfl rfl rfl ⟨rfl, rfl⟩
            · rw [hB_0 q, if_neg (by decide)]
              refine AW.b rfl (fun hc => ?_) (fun hc => ?_)
              · repeat refine AW.s rfl ?_
                try dsimp only [List.set_cons_zero, List.set_cons_succ, Option.toList_some, Option.toList_none, List.cons_append, List.nil_append]
                exact AW.ri rfl rfl rfl ⟨rfl, rfl⟩
              · exact absurd rfl hc
          · by_cases b5 : b = nI 5
            · subst b5
              rw [tl _ (by decide), show toldX Ω a (nI 5) = _ from tX5]
              refine AW.tin (tgt := 135) rfl (by decide) (by decide) rfl (by decide) ?_
              repeat refine AW.s rfl ?_
              try dsimp only [List.set_cons_zero, List.set_cons_succ, Option.toList_some, Option.toList_none, List.cons_append, List.nil_append]
              refine AW.V k_11_46 ((c_Mrule (by omega) hI.1 hW.1)) rfl rfl rfl rfl rfl rfl (fun r1 m9 hq => ?_)
              obtain ⟨rfl, hm9⟩ := hq
              rw [hm9]
              try dsimp only [List.set_cons_zero, List.set_cons_succ, Option.toList_some, Option.toList_none, List.cons_append, List.nil_append]
              by_cases q : hB a ((oG Ω) 0 2) = 1
              · rw [q, if_pos rfl]
                obtain ⟨w, hw, rfl⟩ := (hB_1 (by omega)).mp q
                refine AW.b rfl (fun hc => ?_) (fun hc => ?_)
                · exact absurd hc (by decide)
                · repeat refine AW.s rfl ?_
                  try dsimp only [List.set_cons_zero, List.set_cons_succ, Option.toList_some, Option.toList_none, List.cons_append, List.nil_append]
                  refine AW.c rfl (vp_in_nI (by omega) (by decide)) ?_
                  try dsimp only [List.set_cons_zero, List.set_cons_succ, Option.toList_some, Option.toList_none, List.cons_append, List.nil_append]
                  rw [nI_clamp (by omega), show m (243 + 4) w = nI ((oG Ω) 3 w) from (hI.1.2.2.2.2.2.2.1 w hw).1]
                  repeat refine AW.s rfl ?_
                  try dsimp only [List.set_cons_zero, List.set_cons_succ, Option.toList_some, Option.toList_none, List.cons_append, List.nil_append]
                  exact AW.ri rfl rfl rfl ⟨rfl, rfl⟩
              · rw [hB_0 q, if_neg (by decide)]
                refine AW.b rfl (fun hc => ?_) (fun hc => ?_)
                · repeat refine AW.s rfl ?_
                  try dsimp only [List.set_cons_zero, List.set_cons_succ, Option.toList_some, Option.toList_none, List.cons_append, List.nil_append]
                  exact AW.ri rfl rfl rfl ⟨rfl, rfl⟩
                · exact absurd rfl hc
            · by_cases b6 : b = nI 6
              · subst b6
                rw [tl _ (by decide), show toldX Ω a (nI 6) = _ from tX6]
                refine AW.tin (tgt := 155) rfl (by decide) (by decide) rfl (by decide) ?_
                repeat refine AW.s rfl ?_
                try dsimp only [List.set_cons_zero, List.set_cons_succ, Option.toList_some, Option.toList_none, List.cons_append, List.nil_append]
                refine AW.V k_11_58 ((c_Mword (by omega) hI.1 hW.1)) rfl rfl rfl rfl rfl rfl (fun r1 m9 hq => ?_)
                obtain ⟨rfl, hm9⟩ := hq
                rw [hm9]
                try dsimp only [List.set_cons_zero, List.set_cons_succ, Option.toList_some, Option.toList_none, List.cons_append, List.nil_append]
                by_cases q : hB a ((oG Ω) 0 1) = 1
                · rw [q, if_pos rfl]
                  obtain ⟨w, hw, rfl⟩ := (hB_1 (by omega)).mp q
                  refine AW.b rfl (fun hc => ?_) (fun hc => ?_)
                  · exact absurd hc (by decide)
                  · repeat refine AW.s rfl ?_
                    try dsimp only [List.set_cons_zero, List.set_cons_succ, Option.toList_some, Option.toList_none, List.cons_append, List.nil_append]
                    refine AW.c rfl (vp_in_nI (by omega) (by decide)) ?_
                    try dsimp only [List.set_cons_zero, List.set_cons_succ, Option.toList_some, Option.toList_none, List.cons_append, List.nil_append]
                    rw [nI_clamp (by omega), show m (243 + 2) w = nI ((oG Ω) 1 w) from (hI.1.2.2.2.2.2.1 w hw).1]
                    repeat refine AW.s rfl ?_
                    try dsimp only [List.set_cons_zero, List.set_cons_succ, Option.toList_some, Option.toList_none, List.cons_append, List.nil_append]
                    exact AW.ri rfl rfl rfl ⟨rfl, rfl⟩
                · rw [hB_0 q, if_neg (by decide)]
                  refine AW.b rfl (fun hc => ?_) (fun hc => ?_)
                  · repeat refine AW.s rfl ?_
                    try dsimp only [List.set_cons_zero, List.set_cons_succ, Option.toList_some, Option.toList_none, List.cons_append, List.nil_append]
                    exact AW.ri rfl rfl rfl ⟨rfl, rfl⟩
                  · exact absurd rfl hc
              · have hall : ∀ p, p ≤ 6 → ¬ b = nI p := by
                  intro p hp
                  rcases (show p = 0 ∨ p = 1 ∨ p = 2 ∨ p = 3 ∨ p = 4 ∨ p = 5 ∨ p = 6 by omega) with e | e | e | e | e | e | e <;> subst e <;> assumption
                have hX := tXo (Ω := Ω) (a := a) hall
                refine AW.tout (tgt := 175) rfl (tsw (n := 6) (by decide) hall) (by decide) ?_
                repeat refine AW.s rfl ?_
                try dsimp only [List.set_cons_zero, List.set_cons_succ, Option.toList_some, Option.toList_none, List.cons_append, List.nil_append]
                refine AW.V k_11_58 ((c_Mword (by omega) hI.1 hW.1)) rfl rfl rfl rfl rfl rfl (fun r1 m9 hq => ?_)
                obtain ⟨rfl, hm9⟩ := hq
                rw [hm9]
                try dsimp only [List.set_cons_zero, List.set_cons_succ, Option.toList_some, Option.toList_none, List.cons_append, List.nil_append]
                by_cases q : hB a ((oG Ω) 0 1) = 1
                · rw [q]
                  obtain ⟨w, hw, rfl⟩ := (hB_1 (by omega)).mp q
                  refine AW.b rfl (fun hc => ?_) (fun hc => ?_)
                  · exact absurd hc (by decide)
                  · repeat refine AW.s rfl ?_
                    try dsimp only [List.set_cons_zero, List.set_cons_succ, Option.toList_some, Option.toList_none, List.cons_append, List.nil_append]
                    refine AW.S k_11_7 (c_isIn) rfl rfl rfl rfl (fun r1 m8 hq => ?_)
                    obtain ⟨rfl, hm8⟩ := hq
                    rw [hm8]
                    try dsimp only [List.set_cons_zero, List.set_cons_succ, Option.toList_some, Option.toList_none, List.cons_append, List.nil_append]
                    by_cases z1 : b < 10
                    · rw [if_pos z1, tl b z1, hX]
                      refine AW.b rfl (fun hc => ?_) (fun hc => ?_)
                      · repeat refine AW.s rfl ?_
                        try dsimp only [List.set_cons_zero, List.set_cons_succ, Option.toList_some, Option.toList_none, List.cons_append, List.nil_append]
                        exact AW.ri rfl rfl rfl ⟨rfl, rfl⟩
                      · exact absurd rfl hc
                    · rw [if_neg z1]
                      obtain ⟨j, hj, rfl⟩ : ∃ j, j < 2 ^ 31 ∧ b = nI j := nI_of (fun q => z1 (Int32.lt_trans q (by decide)))
                      have hj10 : ¬ j < 10 := fun q => z1 (nI_lt (b := 10) q (by decide))
                      by_cases z2 : j < 20
                      · have e0 : toldF Ω (nI w) (nI j) = if j - 10 < (oG Ω) 1 w then nI ((oG Ω) (10 + w) (j - 10)) else -1 := by
                          unfold toldF
                          rw [if_neg z1, if_pos (show nI j < 20 from nI_lt (b := 20) z2 (by decide)), if_pos q, nI_clamp (by omega), nI_clamp (by omega)]
                        rw [e0, if_neg (show ¬ (19 : Int32) < nI j from fun q => by have := (nI_ltI (a := 19) (by decide) hj).mp q; omega)]
                        have h10 := (hW.1.2.2.2.2.2.1 w hw).2.1
                        refine AW.b rfl (fun hc => ?_) (fun hc => ?_)
                        · exact absurd hc (by decide)
                        · repeat refine AW.s rfl ?_
                          try dsimp only [List.set_cons_zero, List.set_cons_succ, Option.toList_some, Option.toList_none, List.cons_append, List.nil_append]
                          rw [show nI j - 10 = nI (j - 10) from pk_sub (b := 10) (by omega)]
                          refine AW.c rfl (vp_in_nI (by omega) (by decide)) ?_
                          try dsimp only [List.set_cons_zero, List.set_cons_succ, Option.toList_some, Option.toList_none, List.cons_append, List.nil_append]
                          rw [nI_clamp (by omega), show m (243 + 2) w = nI ((oG Ω) 1 w) from (hI.1.2.2.2.2.2.1 w hw).1]
                          refine AW.b rfl (fun hc => ?_) (fun hc => ?_)
                          · have q5 : j - 10 < (oG Ω) 1 w := (nI_ltI (by omega) (by omega)).mp hc
                            rw [if_pos q5]
                            repeat refine AW.s rfl ?_
                            try dsimp only [List.set_cons_zero, List.set_cons_succ, Option.toList_some, Option.toList_none, List.cons_append, List.nil_append]
                            rw [show (10 : Int32) * nI w = nI (10 * w) from pk_mul 10 w, nI_add, show nI (10 * w + j) - 10 = nI (10 * w + j - 10) from pk_sub (b := 10) (by omega), show 10 * w + j - 10 = 10 * w + (j - 10) by omega]
                            refine AW.c rfl (vp_in_nI (by omega) (by decide)) ?_
                            try dsimp only [List.set_cons_zero, List.set_cons_succ, Option.toList_some, Option.toList_none, List.cons_append, List.nil_append]
                            rw [nI_clamp (by omega), show m (243 + 1) (10 * w + (j - 10)) = nI ((oG Ω) (10 + w) (j - 10)) from (hI.1.2.2.2.2.2.1 w hw).2.2 _ q5]
                            repeat refine AW.s rfl ?_
                            try dsimp only [List.set_cons_zero, List.set_cons_succ, Option.toList_some, Option.toList_none, List.cons_append, List.nil_append]
                            exact AW.ri rfl rfl rfl ⟨rfl, rfl⟩
                          · have q5 : ¬ j - 10 < (oG Ω) 1 w := fun q => hc (nI_lt q (by omega))
                            rw [if_neg q5]
                            repeat refine AW.s rfl ?_
                            try dsimp only [List.set_cons_zero, List.set_cons_succ, Option.toList_some, Option.toList_none, List.cons_append, List.nil_append]
                            exact AW.ri rfl rfl rfl ⟨rfl, rfl⟩
                      · have e0 : toldF Ω (nI w) (nI j) = -100 := by
                          unfold toldF
                          rw [if_neg z1, if_neg (show ¬ nI j < 20 from fun q => z2 ((nI_ltI (b := 20) hj (by decide)).mp q)), hX]
                        rw [e0, if_pos (show (19 : Int32) < nI j from nI_lt (a := 19) (by omega) hj)]
                        refine AW.b rfl (fun hc => ?_) (fun hc => ?_)
                        · repeat refine AW.s rfl ?_
                          try dsimp only [List.set_cons_zero, List.set_cons_succ, Option.toList_some, Option.toList_none, List.cons_append, List.nil_append]
                          exact AW.ri rfl rfl rfl ⟨rfl, rfl⟩
                        · exact absurd rfl hc
                · have e0 : toldF Ω a b = -100 := by
                    unfold toldF
                    rw [hX, if_neg q]
                    split
                    · rfl
                    · split <;> rfl
                  rw [hB_0 q, e0]
                  refine AW.b rfl (fun hc => ?_) (fun hc => ?_)
                  · repeat refine AW.s rfl ?_
                    try dsimp only [List.set_cons_zero, List.set_cons_succ, Option.toList_some, Option.toList_none, List.cons_append, List.nil_append]
                    exact AW.ri rfl rfl rfl ⟨rfl, rfl⟩
                  · exact absurd rfl hc
theorem wB_mask {v : Int32} {σ : Sg} : wB v 67108863 = chB σ 0 v := by
  unfold chB wB
  rw [if_pos rfl]
  by_cases h0 : v < 0
  · rw [if_pos h0, if_pos h0]
  · rw [if_neg h0, if_neg h0]
    obtain ⟨j, hj, rfl⟩ := nI_of h0
    by_cases h1 : 67108863 < j
    · rw [if_pos (show (67108863 : Int32) < nI j from nI_lt (a := 67108863) h1 hj), if_neg (show ¬ nI j < 67108864 from fun q => by have := (nI_ltI (b := 67108864) hj (by decide)).mp q; omega)]
    · rw [if_neg (show ¬ (67108863 : Int32) < nI j from fun q => h1 ((nI_ltI (a := 67108863) (by decide) hj).mp q)), if_pos (show nI j < 67108864 from nI_lt (b := 67108864) (by omega) (by decide))]
theorem M_set {a b c : Int32} (hd : 6 ≤ d) (hW : WO Ω) (hI : InvM m Ω) : Meth l X d M_X11_set [vR 12 243, vI a, vI b, vI c] m (fun r m' => r = some (vI (setF Ω a b c).1) ∧ InvM m' (setF Ω a b c).2 ∧ KM m m') := by
  obtain ⟨d, rfl⟩ : ∃ e, d = e + 1 := ⟨d - 1, by omega⟩
  have h1 := hW.1.2.1
  have h2 := hW.1.2.2.1
  have h3 := hW.1.2.2.2.1
  have hbad : ¬ (hpB (oG Ω) a b = 1 ∧ chB (oG Ω) a c = 1) → ∀ x y, AW (GM l X (d + 1) M_X11_set (fun r m' => r = some (vI (setF Ω a b c).1) ∧ InvM m' (setF Ω a b c).2 ∧ KM m m')) 76 [vR 12 243, vI a, vI b, vI c, vI x, vI y] [] m := by
    intro hn x y
    have e0 : setF Ω a b c = (-100, Ω) := if_neg hn
    rw [e0]
    repeat refine AW.s rfl ?_
    try dsimp only [List.set_cons_zero, List.set_cons_succ, Option.toList_some, Option.toList_none, List.cons_append, List.nil_append]
    exact AW.ri rfl rfl rfl ⟨rfl, hI, KM.rf⟩
  -- behind the bound: 'was' is x, the bound y
  have key : ∀ x y : Int32, wB c y = chB (oG Ω) a c → (hpB (oG Ω) a b = 1 → x = nI (ptN (oG Ω) a.toNatClampNeg b.toNatClampNeg)) → (¬ hpB (oG Ω) a b = 1 → x = -100) → AW (GM l X (d + 1) M_X11_set (fun r m' => r = some (vI (setF Ω a b c).1) ∧ InvM m' (setF Ω a b c).2 ∧ KM m m')) 59 [vR 12 243, vI a, vI b, vI c, vI x, vI y] [] m := by
    intro x y hy hx1 hx0
    repeat refine AW.s rfl ?_
    try dsimp only [List.set_cons_zero, List.set_cons_succ, Option.toList_some, Option.toList_none, List.cons_append, List.nil_append]
    by_cases q1 : hpB (oG Ω) a b = 1
    · have ex := hx1 q1
      obtain ⟨t, i, rfl, ht, rfl, hok, hi⟩ := hpB_1 hW.1 q1
      rw [nI_clamp (show t < 2 ^ 31 by omega), ← ptN_i (σ := oG Ω) hi] at ex
      have hpl : ptN (oG Ω) t i < 2 ^ 26 := by
        unfold ptN
        rcases hok with e | ⟨e, e2⟩ | ⟨e, e2⟩ | ⟨e, e2⟩ | ⟨e, e2⟩ <;> subst e
        · exact hW.1.1
        · have := (hW.1.2.2.2.2.2.1 i e2).2.2.1
          show (oG Ω) 2 i < _; omega
        · have := (hW.1.2.2.2.2.2.2.1 i e2).2.1
          show (oG Ω) 4 i < _; omega
        · have := (hW.1.2.2.2.2.2.2.1 i e2).2.2
          show (oG Ω) 5 i < _; omega
        · have := hW.1.2.2.2.2.2.2.2 i e2
          show (oG Ω) 6 i < _; omega
      refine AW.b rfl (fun hc => ?_) (fun hc => ?_)
      · exact absurd (ex.symm.trans hc) (fun z => by
          have h0 : ¬ nI (ptN (oG Ω) t i) < 0 := nI_pos (by omega)
          rw [z] at h0
          exact h0 (by decide))
      · repeat refine AW.s rfl ?_
        try dsimp only [List.set_cons_zero, List.set_cons_succ, Option.toList_some, Option.toList_none, List.cons_append, List.nil_append]
        refine AW.S k_11_7 (c_in0) rfl rfl rfl rfl (fun r1 m9 hq => ?_)
        obtain ⟨rfl, hm9⟩ := hq
        rw [hm9, hy]
        try dsimp only [List.set_cons_zero, List.set_cons_succ, Option.toList_some, Option.toList_none, List.cons_append, List.nil_append]
        rcases chB_01 (oG Ω) (nI t) c with q2 | q2
        · rw [q2]
          refine AW.b rfl (fun hc => ?_) (fun hc => ?_)
          · exact hbad (fun q => by rw [q2] at q; exact absurd q.2 (by decide)) _ _
          · exact absurd rfl hc
        · have e0 : setF Ω (nI t) (nI i) c = (nI (ptN (oG Ω) (nI t).toNatClampNeg (nI i).toNatClampNeg), uG Ω (chgS (oG Ω) (nI t).toNatClampNeg (nI i).toNatClampNeg c.toNatClampNeg)) := if_pos ⟨q1, q2⟩
          obtain ⟨n, rfl, hn, hcl, -⟩ := chB_1 hW.1 q2
          rw [hcl, nI_clamp (show t < 2 ^ 31 by omega), ← ptN_i (σ := oG Ω) hi, ← chgS_i (σ := oG Ω) (v := n) hi] at e0
          rw [q2, e0, ex]
          refine AW.b rfl (fun hc => ?_) (fun hc => ?_)
          · exact absurd hc (by decide)
          · repeat refine AW.s rfl ?_
            try dsimp only [List.set_cons_zero, List.set_cons_succ, Option.toList_some, Option.toList_none, List.cons_append, List.nil_append]
            rcases hok with e | ⟨e, e2⟩ | ⟨e, e2⟩ | ⟨e, e2⟩ | ⟨e, e2⟩ <;> subst e
            · refine AW.tin (tgt := 112) rfl (by decide) (by decide) rfl (by decide) ?_
              repeat refine AW.s rfl ?_
              try dsimp only [List.set_cons_zero, List.set_cons_succ, Option.toList_some, Option.toList_none, List.cons_append, List.nil_append]
              exact AW.ri rfl rfl rfl ⟨rfl, hI.g (hI.1.v0 (v := n)) (fun q z1 z2 => mUp_a (by omega)) (fun q hq => mUp_n (Or.inr (by omega))), fun q hq => mUp_a (by omega)⟩
            · refine AW.tin (tgt := 120) rfl (by decide) (by decide) rfl (by decide) ?_
              repeat refine AW.s rfl ?_
              try dsimp only [List.set_cons_zero, List.set_cons_succ, Option.toList_some, Option.toList_none, List.cons_append, List.nil_append]
              refine AW.c rfl (⟨vp_in_nI (by omega) (by decide), fun z => absurd z (by decide)⟩) ?_
              try dsimp only [List.set_cons_zero, List.set_cons_succ, Option.toList_some, Option.toList_none, List.cons_append, List.nil_append]
              rw [nI_clamp (by omega)]
              repeat refine AW.s rfl ?_
              try dsimp only [List.set_cons_zero, List.set_cons_succ, Option.toList_some, Option.toList_none, List.cons_append, List.nil_append]
              exact AW.ri rfl rfl rfl ⟨rfl, hI.g (hI.1.u2 (i := i) (v := n)) (fun q z1 z2 => mUp_a (by omega)) (fun q hq => by rw [mUp_a (by decide)]), fun q hq => mUp_a (by omega)⟩
            · refine AW.tin (tgt := 130) rfl (by decide) (by decide) rfl (by decide) ?_
              repeat refine AW.s rfl ?_
              try dsimp only [List.set_cons_zero, List.set_cons_succ, Option.toList_some, Option.toList_none, List.cons_append, List.nil_append]
              refine AW.c rfl (⟨vp_in_nI (by omega) (by decide), fun z => absurd z (by decide)⟩) ?_
              try dsimp only [List.set_cons_zero, List.set_cons_succ, Option.toList_some, Option.toList_none, List.cons_append, List.nil_append]
              rw [nI_clamp (by omega)]
              repeat refine AW.s rfl ?_
              try dsimp only [List.set_cons_zero, List.set_cons_succ, Option.toList_some, Option.toList_none, List.cons_append, List.nil_append]
              exact AW.ri rfl rfl rfl ⟨rfl, hI.g (hI.1.u4 (i := i) (v := n)) (fun q z1 z2 => mUp_a (by omega)) (fun q hq => by rw [mUp_a (by decide)]), fun q hq => mUp_a (by omega)⟩
            · refine AW.tin (tgt := 140) rfl (by decide) (by decide) rfl (by decide) ?_
              repeat refine AW.s rfl ?_
              try dsimp only [List.set_cons_zero, List.set_cons_succ, Option.toList_some, Option.toList_none, List.cons_append, List.nil_append]
              refine AW.c rfl (⟨vp_in_nI (by omega) (by decide), fun z => absurd z (by decide)⟩) ?_
              try dsimp only [List.set_cons_zero, List.set_cons_succ, Option.toList_some, Option.toList_none, List.cons_append, List.nil_append]
              rw [nI_clamp (by omega)]
              repeat refine AW.s rfl ?_
              try dsimp only [List.set_cons_zero, List.set_cons_succ, Option.toList_some, Option.toList_none, List.cons_append, List.nil_append]
              exact AW.ri rfl rfl rfl ⟨rfl, hI.g (hI.1.u5 (i := i) (v := n)) (fun q z1 z2 => mUp_a (by omega)) (fun q hq => by rw [mUp_a (by decide)]), fun q hq => mUp_a (by omega)⟩
            · refine AW.tout (tgt := 150) rfl (by decide) (by decide) ?_
              repeat refine AW.s rfl ?_
              try dsimp only [List.set_cons_zero, List.set_cons_succ, Option.toList_some, Option.toList_none, List.cons_append, List.nil_append]
              refine AW.c rfl (⟨vp_in_nI (by omega) (by decide), fun z => absurd z (by decide)⟩) ?_
              try dsimp only [List.set_cons_zero, List.set_cons_succ, Option.toList_some, Option.toList_none, List.cons_append, List.nil_append]
              rw [nI_clamp (by omega)]
              repeat refine AW.s rfl ?_
              try dsimp only [List.set_cons_zero, List.set_cons_succ, Option.toList_some, Option.toList_none, List.cons_append, List.nil_append]
              exact AW.ri rfl rfl rfl ⟨rfl, hI.g (hI.1.u6 (i := i) (v := n)) (fun q z1 z2 => mUp_a (by omega)) (fun q hq => by rw [mUp_a (by decide)]), fun q hq => mUp_a (by omega)⟩
    · rw [hx0 q1]
      refine AW.b rfl (fun hc => ?_) (fun hc => ?_)
      · exact hbad (fun q => q1 q.1) _ _
      · exact absurd rfl hc
  -- behind 'was'
  have key2 : ∀ x : Int32, (hpB (oG Ω) a b = 1 → x = nI (ptN (oG Ω) a.toNatClampNeg b.toNatClampNeg)) → (¬ hpB (oG Ω) a b = 1 → x = -100) → AW (GM l X (d + 1) M_X11_set (fun r m' => r = some (vI (setF Ω a b c).1) ∧ InvM m' (setF Ω a b c).2 ∧ KM m m')) 20 [vR 12 243, vI a, vI b, vI c, vU, vU] [vI x] m := by
    intro x hx1 hx0
    repeat refine AW.s rfl ?_
    try dsimp only [List.set_cons_zero, List.set_cons_succ, Option.toList_some, Option.toList_none, List.cons_append, List.nil_append]
    refine AW.b rfl (fun hc => ?_) (fun hc => ?_)
    · have a0 : a = 0 := hc
      repeat refine AW.u 59 rfl rfl ?_
      try dsimp only [List.set_cons_zero, List.set_cons_succ, Option.toList_some, Option.toList_none, List.cons_append, List.nil_append]
      exact key x 67108863 (by rw [a0]; exact wB_mask) hx1 hx0
    · have a0 : ¬ a = 0 := hc
      repeat refine AW.s rfl ?_
      try dsimp only [List.set_cons_zero, List.set_cons_succ, Option.toList_some, Option.toList_none, List.cons_append, List.nil_append]
      refine AW.b rfl (fun hc => ?_) (fun hc => ?_)
      · have a1 : a = 1 := hc
        repeat refine AW.u 59 rfl rfl ?_
        try dsimp only [List.set_cons_zero, List.set_cons_succ, Option.toList_some, Option.toList_none, List.cons_append, List.nil_append]
        exact key x 99 (by unfold chB; rw [if_neg a0, if_pos a1]) hx1 hx0
      · have a1 : ¬ a = 1 := hc
        repeat refine AW.s rfl ?_
        try dsimp only [List.set_cons_zero, List.set_cons_succ, Option.toList_some, Option.toList_none, List.cons_append, List.nil_append]
        refine AW.b rfl (fun hc => ?_) (fun hc => ?_)
        · have a4 : a = 4 := hc
          repeat refine AW.u 59 rfl rfl ?_
          try dsimp only [List.set_cons_zero, List.set_cons_succ, Option.toList_some, Option.toList_none, List.cons_append, List.nil_append]
          rw [show m 243 5 = nI ((oG Ω) 0 2) from hI.1.2.2.1]
          exact key x (nI ((oG Ω) 0 2) - 1) (by unfold chB; rw [if_neg a0, if_neg a1, if_pos a4]; exact inB_hB (by omega)) hx1 hx0
        · have a4 : ¬ a = 4 := hc
          repeat refine AW.u 59 rfl rfl ?_
          try dsimp only [List.set_cons_zero, List.set_cons_succ, Option.toList_some, Option.toList_none, List.cons_append, List.nil_append]
          exact key x 25 (by unfold chB; rw [if_neg a0, if_neg a1, if_neg a4]) hx1 hx0
  refine E_X11_set (ls := [vR 12 243, vI a, vI b, vI c, vU, vU]) rfl rfl ?_
  repeat refine AW.s rfl ?_
  try dsimp only [List.set_cons_zero, List.set_cons_succ, Option.toList_some, Option.toList_none, List.cons_append, List.nil_append]
  refine AW.S k_11_7 (c_in0) rfl rfl rfl rfl (fun r1 m9 hq => ?_)
  obtain ⟨rfl, hm9⟩ := hq
  rw [hm9]
  try dsimp only [List.set_cons_zero, List.set_cons_succ, Option.toList_some, Option.toList_none, List.cons_append, List.nil_append]
  by_cases q : wB a 4 = 1
  · rw [q]
    obtain ⟨t, ht, rfl⟩ := (wB_1 (n := 4) (by decide)).mp q
    refine AW.b rfl (fun hc => ?_) (fun hc => ?_)
    · exact absurd hc (by decide)
    · repeat refine AW.s rfl ?_
      try dsimp only [List.set_cons_zero, List.set_cons_succ, Option.toList_some, Option.toList_none, List.cons_append, List.nil_append]
      refine AW.V k_11_61 ((M_told (by omega) hW hI)) rfl rfl rfl rfl rfl rfl (fun r1 m8 hq => ?_)
      obtain ⟨rfl, hm8⟩ := hq
      rw [hm8]
      repeat refine AW.u 20 rfl rfl ?_
      try dsimp only [List.set_cons_zero, List.set_cons_succ, Option.toList_some, Option.toList_none, List.cons_append, List.nil_append]
      have e0 : toldF Ω b (nI t) = if hpB (oG Ω) (nI t) b = 1 then nI (ptN (oG Ω) (nI t).toNatClampNeg b.toNatClampNeg) else -100 := by
        unfold toldF
        rw [if_pos (show nI t < 10 from nI_lt (b := 10) (by omega) (by decide))]
        unfold toldX
        rw [if_neg (show ¬ nI t = 5 from fun z => by have := (nI_eq (b := 5) (by omega) (by decide)).mp z; omega), if_neg (show ¬ nI t = 6 from fun z => by have := (nI_eq (b := 6) (by omega) (by decide)).mp z; omega)]
      exact key2 _ (fun h => by rw [e0, if_pos h]) (fun h => by rw [e0, if_neg h])
  · have hp0 : ¬ hpB (oG Ω) a b = 1 := by
      intro h
      obtain ⟨t, i, rfl, ht, -⟩ := hpB_1 hW.1 h
      exact q ((wB_1 (n := 4) (by decide)).mpr ⟨t, by omega, rfl⟩)
    rw [wB_0 q]
    refine AW.b rfl (fun hc => ?_) (fun hc => ?_)
    · repeat refine AW.u 20 rfl rfl ?_
      try dsimp only [List.set_cons_zero, List.set_cons_succ, Option.toList_some, Option.toList_none, List.cons_append, List.nil_append]
      exact key2 _ (fun h => absurd h hp0) (fun _ => rfl)
    · exact absurd rfl hc
end
