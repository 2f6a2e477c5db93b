-- ===== the model: found, alikeTexts, film, drawn, chance, image, back =====
section
variable {l : Launch} {X : XT} {d : Nat} {m : Mem} {Ω : OM}
/-- letter, number, kind of a rule written -/
def B3 (m : Mem) (r : Nat) (a b c : Int32) : Mem := mUp (mUp (mUp m 248 r a) 249 r b) 247 r c
theorem B3_o {m : Mem} {r : Nat} {a b c : Int32} {q : Nat} (h7 : q ≠ 247) (h8 : q ≠ 248) (h9 : q ≠ 249) : B3 m r a b c q = m q := by
  unfold B3
  rw [mUp_a h7, mUp_a h9, mUp_a h8]
theorem B3_id {m : Mem} {r : Nat} : B3 m r (m 248 r) (m 249 r) (m 247 r) = m := by
  unfold B3
  rw [mUp_e (m := m) rfl, mUp_e (m := m) rfl, mUp_e (m := m) rfl]
theorem B3_4 {m : Mem} {r : Nat} {x : Int32} : B3 m r x (m 249 r) (m 247 r) = mUp m 248 r x := by
  unfold B3
  rw [mUp_e (m := mUp m 248 r x) (h := 249) (by rw [mUp_a (by decide)]), mUp_e (m := mUp m 248 r x) (h := 247) (by rw [mUp_a (by decide)])]
theorem B3_5 {m : Mem} {r : Nat} {x : Int32} : B3 m r (m 248 r) x (m 247 r) = mUp m 249 r x := by
  unfold B3
  rw [mUp_e (m := m) (h := 248) rfl, mUp_e (m := mUp m 249 r x) (h := 247) (by rw [mUp_a (by decide)])]
theorem B3_3 {m : Mem} {r : Nat} {x : Int32} : B3 m r (m 248 r) (m 249 r) x = mUp m 247 r x := by
  unfold B3
  rw [mUp_e (m := m) (h := 248) rfl, mUp_e (m := m) (h := 249) rfl]
theorem B3_7 {m : Mem} {r j : Nat} {a b c : Int32} : B3 m r a b c 247 j = if j = r then c else m 247 j := by
  unfold B3
  by_cases e : j = r
  · subst e; rw [mUp_s, if_pos rfl]
  · rw [mUp_n (Or.inr e), if_neg e, mUp_a (m := mUp m 248 r a) (show (247 : Nat) ≠ 249 by decide), mUp_a (m := m) (show (247 : Nat) ≠ 248 by decide)]
theorem B3_8 {m : Mem} {r j : Nat} {a b c : Int32} : B3 m r a b c 248 j = if j = r then a else m 248 j := by
  unfold B3
  rw [mUp_a (m := mUp (mUp m 248 r a) 249 r b) (show (248 : Nat) ≠ 247 by decide), mUp_a (m := mUp m 248 r a) (show (248 : Nat) ≠ 249 by decide)]
  by_cases e : j = r
  · subst e; rw [mUp_s, if_pos rfl]
  · rw [mUp_n (Or.inr e), if_neg e]
theorem B3_9 {m : Mem} {r j : Nat} {a b c : Int32} : B3 m r a b c 249 j = if j = r then b else m 249 j := by
  unfold B3
  rw [mUp_a (m := mUp (mUp m 248 r a) 249 r b) (show (249 : Nat) ≠ 247 by decide)]
  by_cases e : j = r
  · subst e; rw [mUp_s, if_pos rfl]
  · rw [mUp_n (Or.inr e), if_neg e, mUp_a (m := m) (show (249 : Nat) ≠ 248 by decide)]
theorem FrT.b3 {m m1 : Mem} {r : Nat} {a b c a' b' c' : Int32} (h : FrT (B3 m r a b c) m1) : FrT (B3 m r a' b' c') (B3 m1 r a' b' c') := by
  refine ⟨fun q h1 h2 h3 => ?_, fun k hk => ?_⟩
  · have hq := h.1 q h1 h2 h3
    by_cases e7 : q = 247
    · subst e7
      funext j
      have := congrFun hq j
      rw [B3_7] at this
      rw [B3_7, B3_7]
      by_cases e : j = r
      · rw [if_pos e, if_pos e]
      · rw [if_neg e, if_neg e, this, if_neg e]
    · by_cases e8 : q = 248
      · subst e8
        funext j
        have := congrFun hq j
        rw [B3_8] at this
        rw [B3_8, B3_8]
        by_cases e : j = r
        · rw [if_pos e, if_pos e]
        · rw [if_neg e, if_neg e, this, if_neg e]
      · by_cases e9 : q = 249
        · subst e9
          funext j
          have := congrFun hq j
          rw [B3_9] at this
          rw [B3_9, B3_9]
          by_cases e : j = r
          · rw [if_pos e, if_pos e]
          · rw [if_neg e, if_neg e, this, if_neg e]
        · rw [B3_o e7 e8 e9, B3_o e7 e8 e9, hq, B3_o e7 e8 e9]
  · rw [B3_o (by decide) (by decide) (by decide), B3_o (by decide) (by decide) (by decide), h.2 k hk, B3_o (by decide) (by decide) (by decide)]
theorem M_found {a b c e : Int32} (hd : 7 ≤ d) (hW : WO Ω) (hI : InvM m Ω) : Meth l X d M_X11_found [vR 12 243, vI a, vI b, vI c, vI e] m (fun r m' => ∃ x, r = some (vI x) ∧ foundR Ω a b c e x ∧ FrM m m') := by
  obtain ⟨d, rfl⟩ : ∃ e, d = e + 1 := ⟨d - 1, by omega⟩
  have h1 := hW.1.2.1
  have h2 := hW.1.2.2.1
  have hbad : (¬ ∃ i w r p, i ≤ 3 ∧ a = nI i ∧ w < (oG Ω) 0 1 ∧ b = nI w ∧ r < (oG Ω) 0 2 ∧ c = nI r ∧ p ≤ 2 ∧ e = nI p) → AW (GM l X (d + 1) M_X11_found (fun r m' => ∃ x, r = some (vI x) ∧ foundR Ω a b c e x ∧ FrM m m')) 33 [vR 12 243, vI a, vI b, vI c, vI e, vU, vU, vU, vU, vU] [] m := by
    intro hn
    repeat refine AW.s rfl ?_
    try dsimp only [List.set_cons_zero, List.set_cons_succ, Option.toList_some, Option.toList_none, List.cons_append, List.nil_append]
    exact AW.ri rfl rfl rfl ⟨_, rfl, Or.inr ⟨hn, rfl⟩, FrM.rf⟩
  refine E_X11_found (ls := [vR 12 243, vI a, vI b, vI c, vI e, vU, vU, vU, vU, vU]) rfl rfl ?_
  repeat refine AW.s rfl ?_
  try dsimp only [List.set_cons_zero, List.set_cons_succ, Option.toList_some, Option.toList_none, List.cons_append, List.nil_append]
  refine AW.S k_11_14 ((c_MisSheet (by omega))) rfl rfl rfl rfl (fun r1 m9 hq => ?_)
  obtain ⟨rfl, hm9⟩ := hq
  rw [hm9]
  try dsimp only [List.set_cons_zero, List.set_cons_succ, Option.toList_some, Option.toList_none, List.cons_append, List.nil_append]
  by_cases q1 : wB a 3 = 1
  · rw [q1]
    refine AW.b rfl (fun hc => ?_) (fun hc => ?_)
    · exact absurd hc (by decide)
    · repeat refine AW.s rfl ?_
      try dsimp only [List.set_cons_zero, List.set_cons_succ, Option.toList_some, Option.toList_none, List.cons_append, List.nil_append]
      refine AW.V k_11_58 ((c_Mword (by omega) hI.1 hW.1)) rfl rfl rfl rfl rfl rfl (fun r1 m8 hq => ?_)
      obtain ⟨rfl, hm8⟩ := hq
      rw [hm8]
      try dsimp only [List.set_cons_zero, List.set_cons_succ, Option.toList_some, Option.toList_none, List.cons_append, List.nil_append]
      by_cases q2 : hB b ((oG Ω) 0 1) = 1
      · rw [q2]
        refine AW.b rfl (fun hc => ?_) (fun hc => ?_)
        · exact absurd hc (by decide)
        · repeat refine AW.s rfl ?_
          try dsimp only [List.set_cons_zero, List.set_cons_succ, Option.toList_some, Option.toList_none, List.cons_append, List.nil_append]
          refine AW.V k_11_46 ((c_Mrule (by omega) hI.1 hW.1)) rfl rfl rfl rfl rfl rfl (fun r1 m7 hq => ?_)
          obtain ⟨rfl, hm7⟩ := hq
          rw [hm7]
          try dsimp only [List.set_cons_zero, List.set_cons_succ, Option.toList_some, Option.toList_none, List.cons_append, List.nil_append]
          by_cases q3 : hB c ((oG Ω) 0 2) = 1
          · rw [q3]
            refine AW.b rfl (fun hc => ?_) (fun hc => ?_)
            · exact absurd hc (by decide)
            · repeat refine AW.s rfl ?_
              try dsimp only [List.set_cons_zero, List.set_cons_succ, Option.toList_some, Option.toList_none, List.cons_append, List.nil_append]
              refine AW.S k_11_7 (c_in0) rfl rfl rfl rfl (fun r1 m6 hq => ?_)
              obtain ⟨rfl, hm6⟩ := hq
              rw [hm6]
              try dsimp only [List.set_cons_zero, List.set_cons_succ, Option.toList_some, Option.toList_none, List.cons_append, List.nil_append]
              by_cases q4 : wB e 2 = 1
              · rw [q4]
                obtain ⟨i, hi, rfl⟩ := (wB_1 (n := 3) (by decide)).mp q1
                obtain ⟨w, hw, rfl⟩ := (hB_1 (by omega)).mp q2
                obtain ⟨r, hr, rfl⟩ := (hB_1 (by omega)).mp q3
                obtain ⟨p, hp, rfl⟩ := (wB_1 (n := 2) (by decide)).mp q4
                obtain ⟨s1, s2, s3⟩ := hI.2.2.2.2.2.2.2.1 i (by omega)
                have hsh := hW.2.2.2.2.2.2 i (by omega)
                have hz := hsh.le
                refine AW.b rfl (fun hc => ?_) (fun hc => ?_)
                · exact absurd hc (by decide)
                · repeat refine AW.s rfl ?_
                  try dsimp only [List.set_cons_zero, List.set_cons_succ, Option.toList_some, Option.toList_none, List.cons_append, List.nil_append]
                  refine AW.c rfl (vp_in_nI (by omega) (by decide)) ?_
                  try dsimp only [List.set_cons_zero, List.set_cons_succ, Option.toList_some, Option.toList_none, List.cons_append, List.nil_append]
                  rw [nI_clamp (by omega), show m (243 + 23) i = oS Ω i from s1]
                  refine AW.b rfl (fun hc => ?_) (fun hc => ?_)
                  · have q5 := (sort_lt hsh).mp hc
                    repeat refine AW.s rfl ?_
                    try dsimp only [List.set_cons_zero, List.set_cons_succ, Option.toList_some, Option.toList_none, List.cons_append, List.nil_append]
                    exact AW.ri rfl rfl rfl ⟨_, rfl, Or.inl ⟨i, w, r, p, hi, rfl, hw, rfl, hr, rfl, hp, rfl, Or.inl ⟨q5, rfl⟩⟩, FrM.rf⟩
                  · have q5 : ¬ oS Ω i = -1 := fun z => hc ((sort_lt hsh).mpr z)
                    repeat refine AW.s rfl ?_
                    try dsimp only [List.set_cons_zero, List.set_cons_succ, Option.toList_some, Option.toList_none, List.cons_append, List.nil_append]
                    refine AW.c rfl (vp_in_nI (by omega) (by decide)) ?_
                    try dsimp only [List.set_cons_zero, List.set_cons_succ, Option.toList_some, Option.toList_none, List.cons_append, List.nil_append]
                    rw [nI_clamp (by omega)]
                    repeat refine AW.s rfl ?_
                    try dsimp only [List.set_cons_zero, List.set_cons_succ, Option.toList_some, Option.toList_none, List.cons_append, List.nil_append]
                    refine AW.c rfl (vp_in_nI (by omega) (by decide)) ?_
                    try dsimp only [List.set_cons_zero, List.set_cons_succ, Option.toList_some, Option.toList_none, List.cons_append, List.nil_append]
                    rw [nI_clamp (by omega)]
                    repeat refine AW.s rfl ?_
                    try dsimp only [List.set_cons_zero, List.set_cons_succ, Option.toList_some, Option.toList_none, List.cons_append, List.nil_append]
                    refine AW.c rfl (vp_in_nI (by omega) (by decide)) ?_
                    try dsimp only [List.set_cons_zero, List.set_cons_succ, Option.toList_some, Option.toList_none, List.cons_append, List.nil_append]
                    rw [nI_clamp (by omega)]
                    have hV : (if p = 2 then 6 else 26) ≤ 26 := by split <;> omega
                    generalize hVn : (if p = 2 then 6 else 26) = V at *
                    -- what is written in the round v, and the state then
                    have st : ∀ v, v < V → ∃ xa xb xc : Int32, xa = (if p = 0 then nI v else m 248 r) ∧ xb = (if p = 1 then nI v else m 249 r) ∧ xc = (if p = 2 then nI v else m 247 r) ∧ RepM (B3 m r xa xb xc) (sU (oG Ω) (if p = 0 then 4 else if p = 1 then 5 else 3) r v) := by
                      intro v hv
                      refine ⟨_, _, _, rfl, rfl, rfl, ?_⟩
                      rcases (show p = 0 ∨ p = 1 ∨ p = 2 by omega) with ep | ep | ep <;> subst ep
                      · show RepM (B3 m r (nI v) (m 249 r) (m 247 r)) (sU (oG Ω) 4 r v)
                        rw [B3_4]; exact hI.1.u4
                      · show RepM (B3 m r (m 248 r) (nI v) (m 247 r)) (sU (oG Ω) 5 r v)
                        rw [B3_5]; exact hI.1.u5
                      · show RepM (B3 m r (m 248 r) (m 249 r) (nI v)) (sU (oG Ω) 3 r v)
                        rw [B3_3]; exact hI.1.u3
                    have swf : ∀ v, v < V → WF (sU (oG Ω) (if p = 0 then 4 else if p = 1 then 5 else 3) r v) := by
                      intro v hv
                      refine hW.1.uR ?_ ?_ (by omega) (fun e3 => ?_)
                      · split
                        · decide
                        · split <;> decide
                      · split
                        · decide
                        · split <;> decide
                      · have : p = 2 := by
                          rcases (show p = 0 ∨ p = 1 ∨ p = 2 by omega) with ep | ep | ep <;> subst ep
                          · exact absurd e3 (by decide)
                          · exact absurd e3 (by decide)
                          · rfl
                        rw [if_pos this] at hVn
                        omega
                    have sro : ∀ v, rowL (sU (oG Ω) (if p = 0 then 4 else if p = 1 then 5 else 3) r v) = rowL (oG Ω) := by
                      intro v
                      refine rowL_o ?_ ?_
                      · split
                        · decide
                        · split <;> decide
                      · split
                        · decide
                        · split <;> decide
                    have sW : ∀ v, (sU (oG Ω) (if p = 0 then 4 else if p = 1 then 5 else 3) r v) 0 1 = (oG Ω) 0 1 := by
                      intro v
                      refine sU_o ?_
                      split
                      · decide
                      · split <;> decide
                    repeat refine AW.u 78 rfl rfl ?_
                    try dsimp only [List.set_cons_zero, List.set_cons_succ, Option.toList_some, Option.toList_none, List.cons_append, List.nil_append]
                    refine AW.loop (pc := 78) (σ := Int32) V (fun v x => [vR 12 243, vI (nI i), vI (nI w), vI (nI r), vI (nI p), vI (m (243 + 5) r), vI (m (243 + 6) r), vI (m (243 + 4) r), vI x, vI (nI v)]) (fun v x m1 => (∃ a b c, FrT (B3 m r a b c) m1) ∧ isBits x (fun u => u < v ∧ telO (oI Ω i) (oZ Ω i) (saidS (sU (oG Ω) (if p = 0 then 4 else if p = 1 then 5 else 3) r u) (rowL (oG Ω)) w))) (fun v x m1 hv hm1 ih => ?_) 0 0 m (Nat.zero_le _) ⟨⟨m 248 r, m 249 r, m 247 r, by rw [B3_id]; exact FrT.rf⟩, isBits.zero.to (fun b => ⟨fun q => absurd q id, fun q => absurd q.1 (by omega)⟩)⟩
                    obtain ⟨⟨xa0, xb0, xc0, hf⟩, hb⟩ := hm1
                    -- at the loop's test
                    have test : AW (GM l X (d + 1) M_X11_found (fun r_1 m' => ∃ x, r_1 = some (vI x) ∧ foundR Ω (nI i) (nI w) (nI r) (nI p) x ∧ FrM m m')) 93 [vR 12 243, vI (nI i), vI (nI w), vI (nI r), vI (nI p), vI (m (243 + 5) r), vI (m (243 + 6) r), vI (m (243 + 4) r), vI x, vI (nI v)] [vI (nI V), vI (nI v)] m1 := by
                      refine AW.b rfl (fun hc => ?_) (fun hc => ?_)
                      · have hlv : v < V := (nI_ltI (by omega) (by omega)).mp hc
                        obtain ⟨xa, xb, xc, ea, eb, ec, hR⟩ := st v hlv
                        -- the three stores
                        have s1' : AW (GM l X (d + 1) M_X11_found (fun r_1 m' => ∃ x, r_1 = some (vI x) ∧ foundR Ω (nI i) (nI w) (nI r) (nI p) x ∧ FrM m m')) 113 [vR 12 243, vI (nI i), vI (nI w), vI (nI r), vI (nI p), vI (m (243 + 5) r), vI (m (243 + 6) r), vI (m (243 + 4) r), vI x, vI (nI v)] [vI xa, vI (nI r), vR 1006 248] m1 := by
                          refine AW.c rfl (⟨vp_in_nI (by omega) (by decide), fun z => absurd z (by decide)⟩) ?_
                          try dsimp only [List.set_cons_zero, List.set_cons_succ, Option.toList_some, Option.toList_none, List.cons_append, List.nil_append]
                          rw [nI_clamp (by omega)]
                          have s2' : AW (GM l X (d + 1) M_X11_found (fun r_1 m' => ∃ x, r_1 = some (vI x) ∧ foundR Ω (nI i) (nI w) (nI r) (nI p) x ∧ FrM m m')) 132 [vR 12 243, vI (nI i), vI (nI w), vI (nI r), vI (nI p), vI (m (243 + 5) r), vI (m (243 + 6) r), vI (m (243 + 4) r), vI x, vI (nI v)] [vI xb, vI (nI r), vR 1006 249] (mUp m1 248 r xa) := by
                            refine AW.c rfl (⟨vp_in_nI (by omega) (by decide), fun z => absurd z (by decide)⟩) ?_
                            try dsimp only [List.set_cons_zero, List.set_cons_succ, Option.toList_some, Option.toList_none, List.cons_append, List.nil_append]
                            rw [nI_clamp (by omega)]
                            have s3' : AW (GM l X (d + 1) M_X11_found (fun r_1 m' => ∃ x, r_1 = some (vI x) ∧ foundR Ω (nI i) (nI w) (nI r) (nI p) x ∧ FrM m m')) 151 [vR 12 243, vI (nI i), vI (nI w), vI (nI r), vI (nI p), vI (m (243 + 5) r), vI (m (243 + 6) r), vI (m (243 + 4) r), vI x, vI (nI v)] [vI xc, vI (nI r), vR 1006 247] (mUp (mUp m1 248 r xa) 249 r xb) := by
                              refine AW.c rfl (⟨vp_in_nI (by omega) (by decide), fun z => absurd z (by decide)⟩) ?_
                              try dsimp only [List.set_cons_zero, List.set_cons_succ, Option.toList_some, Option.toList_none, List.cons_append, List.nil_append]
                              rw [nI_clamp (by omega)]
                              have hf2 : FrT (B3 m r xa xb xc) (mUp (mUp (mUp m1 248 r xa) 249 r xb) 247 r xc) := hf.b3
                              have hs2 := hR.T hf2
                              have hwf := swf v hlv
                              have hw2 : w < (sU (oG Ω) (if p = 0 then 4 else if p = 1 then 5 else 3) r v) 0 1 := by rw [sW]; exact hw
                              repeat refine AW.s rfl ?_
                              try dsimp only [List.set_cons_zero, List.set_cons_succ, Option.toList_some, Option.toList_none, List.cons_append, List.nil_append]
                              refine AW.V k_11_232 ((c_Mbegin hs2 hwf hw2)) rfl rfl rfl rfl rfl rfl (fun r1 m2 hq => ?_)
                              obtain ⟨rfl, p1, p2⟩ := hq
                              repeat refine AW.s rfl ?_
                              try dsimp only [List.set_cons_zero, List.set_cons_succ, Option.toList_some, Option.toList_none, List.cons_append, List.nil_append]
                              refine AW.V k_11_235 ((c_MturnByRow (by omega) (hs2.T p2) hwf p1 (wl_wf hwf hw2))) rfl rfl rfl rfl rfl rfl (fun r1 m3 hq => ?_)
                              obtain ⟨rfl, p3, p4⟩ := hq
                              rw [sro] at p3
                              have f3 := (hf2.tr p2).tr p4
                              have hwo : WFo (sayR (sU (oG Ω) (if p = 0 then 4 else if p = 1 then 5 else 3) r v) (rowL (oG Ω)) (some (wl (sU (oG Ω) (if p = 0 then 4 else if p = 1 then 5 else 3) r v) w))) := by
                                rw [← sro v]
                                exact saidS_wf hwf (rowL_wf hwf) hw2
                              repeat refine AW.s rfl ?_
                              try dsimp only [List.set_cons_zero, List.set_cons_succ, Option.toList_some, Option.toList_none, List.cons_append, List.nil_append]
                              refine AW.V k_11_296 ((c_MisHeard (s := i) (z := oZ Ω i) (g := oI Ω i) (by omega) (by rw [f3.1 267 (by decide) (by decide) (by decide), B3_o (by decide) (by decide) (by decide)]; exact s2) hz (fun k hk => by rw [f3.1 268 (by decide) (by decide) (by decide), B3_o (by decide) (by decide) (by decide)]; exact s3 k hk) p3 hwo)) rfl rfl rfl rfl rfl rfl (fun r1 m4 hq => ?_)
                              obtain ⟨bb, rfl, hbb, hm4⟩ := hq
                              rw [hm4]
                              try dsimp only [List.set_cons_zero, List.set_cons_succ, Option.toList_some, Option.toList_none, List.cons_append, List.nil_append]
                              cases bb with
                              | true =>
                                refine AW.b rfl (fun hc => ?_) (fun hc => ?_)
                                · exact absurd (show (1 : Int32) = 0 from hc) (by decide)
                                · repeat refine AW.u 78 rfl rfl ?_
                                  try dsimp only [List.set_cons_zero, List.set_cons_succ, Option.toList_some, Option.toList_none, List.cons_append, List.nil_append]
                                  rw [nI_1]
                                  refine ih _ _ hlv ⟨⟨_, _, _, f3⟩, (hb.or (k := v) (by omega)).to (fun u => ⟨fun q => ?_, fun q => ?_⟩)⟩
                                  · rcases q with q | rfl
                                    · exact ⟨by omega, q.2⟩
                                    · exact ⟨by omega, hbb.mp rfl⟩
                                  · by_cases e : u = v
                                    · exact Or.inr e
                                    · exact Or.inl ⟨by omega, q.2⟩
                              | false =>
                                refine AW.b rfl (fun hc => ?_) (fun hc => ?_)
                                · repeat refine AW.u 78 rfl rfl ?_
                                  try dsimp only [List.set_cons_zero, List.set_cons_succ, Option.toList_some, Option.toList_none, List.cons_append, List.nil_append]
                                  rw [nI_1, show x ||| 0 = x by simp]
                                  refine ih _ _ hlv ⟨⟨_, _, _, f3⟩, hb.to (fun u => ⟨fun q => ⟨by omega, q.2⟩, fun q => ?_⟩)⟩
                                  by_cases e : u = v
                                  · subst e; exact absurd (hbb.mpr q.2) (by decide)
                                  · exact ⟨by omega, q.2⟩
                                · exact absurd rfl hc
                            repeat refine AW.s rfl ?_
                            try dsimp only [List.set_cons_zero, List.set_cons_succ, Option.toList_some, Option.toList_none, List.cons_append, List.nil_append]
                            refine AW.b rfl (fun hc => ?_) (fun hc => ?_)
                            · have e : p = 2 := (nI_eq (b := 2) (by omega) (by decide)).mp hc
                              rw [if_pos e] at ec
                              repeat refine AW.u 151 rfl rfl ?_
                              try dsimp only [List.set_cons_zero, List.set_cons_succ, Option.toList_some, Option.toList_none, List.cons_append, List.nil_append]
                              rw [ec] at s3'
                              exact s3'
                            · have e : ¬ p = 2 := fun q => hc (by rw [q]; rfl)
                              rw [if_neg e] at ec
                              repeat refine AW.u 151 rfl rfl ?_
                              try dsimp only [List.set_cons_zero, List.set_cons_succ, Option.toList_some, Option.toList_none, List.cons_append, List.nil_append]
                              rw [show m (243 + 4) r = xc from ec.symm]
                              rw [show m (243 + 4) r = xc from ec.symm] at s3'
                              exact s3'
                          repeat refine AW.s rfl ?_
                          try dsimp only [List.set_cons_zero, List.set_cons_succ, Option.toList_some, Option.toList_none, List.cons_append, List.nil_append]
                          refine AW.b rfl (fun hc => ?_) (fun hc => ?_)
                          · have e : p = 1 := (nI_eq (b := 1) (by omega) (by decide)).mp hc
                            rw [if_pos e] at eb
                            repeat refine AW.u 132 rfl rfl ?_
                            try dsimp only [List.set_cons_zero, List.set_cons_succ, Option.toList_some, Option.toList_none, List.cons_append, List.nil_append]
                            rw [eb] at s2'
                            exact s2'
                          · have e : ¬ p = 1 := fun q => hc (by rw [q]; rfl)
                            rw [if_neg e] at eb
                            repeat refine AW.u 132 rfl rfl ?_
                            try dsimp only [List.set_cons_zero, List.set_cons_succ, Option.toList_some, Option.toList_none, List.cons_append, List.nil_append]
                            rw [show m (243 + 6) r = xb from eb.symm]
                            rw [show m (243 + 6) r = xb from eb.symm] at s2'
                            exact s2'
                        repeat refine AW.s rfl ?_
                        try dsimp only [List.set_cons_zero, List.set_cons_succ, Option.toList_some, Option.toList_none, List.cons_append, List.nil_append]
                        refine AW.b rfl (fun hc => ?_) (fun hc => ?_)
                        · have e : p = 0 := (nI_eq (b := 0) (by omega) (by decide)).mp hc
                          rw [if_pos e] at ea
                          repeat refine AW.u 113 rfl rfl ?_
                          try dsimp only [List.set_cons_zero, List.set_cons_succ, Option.toList_some, Option.toList_none, List.cons_append, List.nil_append]
                          rw [ea] at s1'
                          exact s1'
                        · have e : ¬ p = 0 := fun q => hc (by rw [q]; rfl)
                          rw [if_neg e] at ea
                          repeat refine AW.u 113 rfl rfl ?_
                          try dsimp only [List.set_cons_zero, List.set_cons_succ, Option.toList_some, Option.toList_none, List.cons_append, List.nil_append]
                          rw [show m (243 + 5) r = xa from ea.symm]
                          rw [show m (243 + 5) r = xa from ea.symm] at s1'
                          exact s1'
                      · have : v = V := by
                          have : ¬ v < V := fun q => hc ((nI_ltI (by omega) (by omega)).mpr q)
                          omega
                        subst this
                        repeat refine AW.s rfl ?_
                        try dsimp only [List.set_cons_zero, List.set_cons_succ, Option.toList_some, Option.toList_none, List.cons_append, List.nil_append]
                        refine AW.c rfl (⟨vp_in_nI (by omega) (by decide), fun z => absurd z (by decide)⟩) ?_
                        try dsimp only [List.set_cons_zero, List.set_cons_succ, Option.toList_some, Option.toList_none, List.cons_append, List.nil_append]
                        rw [nI_clamp (by omega)]
                        repeat refine AW.s rfl ?_
                        try dsimp only [List.set_cons_zero, List.set_cons_succ, Option.toList_some, Option.toList_none, List.cons_append, List.nil_append]
                        refine AW.c rfl (⟨vp_in_nI (by omega) (by decide), fun z => absurd z (by decide)⟩) ?_
                        try dsimp only [List.set_cons_zero, List.set_cons_succ, Option.toList_some, Option.toList_none, List.cons_append, List.nil_append]
                        rw [nI_clamp (by omega)]
                        repeat refine AW.s rfl ?_
                        try dsimp only [List.set_cons_zero, List.set_cons_succ, Option.toList_some, Option.toList_none, List.cons_append, List.nil_append]
                        refine AW.c rfl (⟨vp_in_nI (by omega) (by decide), fun z => absurd z (by decide)⟩) ?_
                        try dsimp only [List.set_cons_zero, List.set_cons_succ, Option.toList_some, Option.toList_none, List.cons_append, List.nil_append]
                        rw [nI_clamp (by omega)]
                        have hf9 : FrT m (mUp (mUp (mUp m1 (243 + 5) r (m (243 + 5) r)) (243 + 6) r (m (243 + 6) r)) (243 + 4) r (m (243 + 4) r)) := by
                          have := hf.b3 (a' := m 248 r) (b' := m 249 r) (c' := m 247 r)
                          rw [B3_id] at this
                          exact this
                        repeat refine AW.s rfl ?_
                        try dsimp only [List.set_cons_zero, List.set_cons_succ, Option.toList_some, Option.toList_none, List.cons_append, List.nil_append]
                        refine AW.ri rfl rfl rfl ⟨_, rfl, Or.inl ⟨i, w, r, p, hi, rfl, hw, rfl, hr, rfl, hp, rfl, Or.inr ⟨q5, ?_⟩⟩, hf9.M⟩
                        rw [hVn]
                        exact hb
                    repeat refine AW.s rfl ?_
                    try dsimp only [List.set_cons_zero, List.set_cons_succ, Option.toList_some, Option.toList_none, List.cons_append, List.nil_append]
                    refine AW.b rfl (fun hc => ?_) (fun hc => ?_)
                    · have e : p = 2 := (nI_eq (b := 2) (by omega) (by decide)).mp hc
                      rw [if_pos e] at hVn
                      repeat refine AW.u 93 rfl rfl ?_
                      try dsimp only [List.set_cons_zero, List.set_cons_succ, Option.toList_some, Option.toList_none, List.cons_append, List.nil_append]
                      rw [show (6 : Int32) = nI V by rw [← hVn]; rfl]
                      exact test
                    · have e : ¬ p = 2 := fun q => hc (by rw [q]; rfl)
                      rw [if_neg e] at hVn
                      repeat refine AW.u 93 rfl rfl ?_
                      try dsimp only [List.set_cons_zero, List.set_cons_succ, Option.toList_some, Option.toList_none, List.cons_append, List.nil_append]
                      rw [show (26 : Int32) = nI V by rw [← hVn]; rfl]
                      exact test
              · rw [wB_0 q4]
                refine AW.b rfl (fun hc => ?_) (fun hc => ?_)
                · exact hbad (fun ⟨i, w, r, p, _, _, _, _, _, _, hp, ep⟩ => q4 ((wB_1 (n := 2) (by decide)).mpr ⟨p, hp, ep⟩))
                · exact absurd rfl hc
          · rw [hB_0 q3]
            refine AW.b rfl (fun hc => ?_) (fun hc => ?_)
            · exact hbad (fun ⟨i, w, r, p, _, _, _, _, hr, er, _, _⟩ => q3 ((hB_1 (by omega)).mpr ⟨r, hr, er⟩))
            · exact absurd rfl hc
      · rw [hB_0 q2]
        refine AW.b rfl (fun hc => ?_) (fun hc => ?_)
        · exact hbad (fun ⟨i, w, r, p, _, _, hw, ew, _, _, _, _⟩ => q2 ((hB_1 (by omega)).mpr ⟨w, hw, ew⟩))
        · exact absurd rfl hc
  · rw [wB_0 q1]
    refine AW.b rfl (fun hc => ?_) (fun hc => ?_)
    · exact hbad (fun ⟨i, w, r, p, hi, ei, _, _, _, _, _, _⟩ => q1 ((wB_1 (n := 3) (by decide)).mpr ⟨i, hi, ei⟩))
    · exact absurd rfl hc
end
