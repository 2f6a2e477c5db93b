-- ===== the model: said, turned, round, idle, apart =====
section
variable {l : Launch} {X : XT} {d : Nat} {m : Mem} {Ω : OM}
/-- what the law's three parts are, for the model -/
theorem InvM.law {t : Nat} (hI : InvM m Ω) (ht : t < oQ Ω) : ∃ css : Nat → List Int32, (∀ p, p < 3 → MOK m (3 * t + p) (css p)) ∧ ∀ p, p < 3 → ∀ F, clI (mvl F (css p)) = oV Ω t p F := by
  obtain ⟨c0, x0, y0⟩ := hI.2.2.2.2.1 t ht 0 (by decide)
  obtain ⟨c1, x1, y1⟩ := hI.2.2.2.2.1 t ht 1 (by decide)
  obtain ⟨c2, x2, y2⟩ := hI.2.2.2.2.1 t ht 2 (by decide)
  refine ⟨fun p => if p = 0 then c0 else if p = 1 then c1 else c2, fun p hp => ?_, fun p hp F => ?_⟩
  · rcases (show p = 0 ∨ p = 1 ∨ p = 2 by omega) with e | e | e <;> subst e
    · exact x0
    · exact x1
    · exact x2
  · rcases (show p = 0 ∨ p = 1 ∨ p = 2 by omega) with e | e | e <;> subst e
    · exact y0 F
    · exact y1 F
    · exact y2 F
/-- the same of any state with the same texts -/
theorem M_worth {σ : Sg} (hd : 5 ≤ d) (hs : RepM m σ) (hσ : WF σ) (hl : σ 0 4 < oQ Ω) (hI : ∀ t, t < oQ Ω → ∀ p, p < 3 → ∃ cs, MOK m (3 * t + p) cs ∧ ∀ F, clI (mvl F cs) = oV Ω t p F) : Meth l X d M_X11_worthNow [vR 12 243] m (fun r m' => r = some (vI (wthO (uG Ω σ) (σ 0 4) (rowL σ))) ∧ FrW m m') := by
  obtain ⟨c0, x0, y0⟩ := hI _ hl 0 (by decide)
  obtain ⟨c1, x1, y1⟩ := hI _ hl 1 (by decide)
  obtain ⟨c2, x2, y2⟩ := hI _ hl 2 (by decide)
  have h1 : ∀ p, p < 3 → MOK m (3 * σ 0 4 + p) (if p = 0 then c0 else if p = 1 then c1 else c2) := by
    intro p hp
    rcases (show p = 0 ∨ p = 1 ∨ p = 2 by omega) with e | e | e <;> subst e
    · exact x0
    · exact x1
    · exact x2
  refine (c_MworthNow (css := fun p => if p = 0 then c0 else if p = 1 then c1 else c2) hd hs hσ h1).post (fun r m' hq => ⟨?_, hq.2.1⟩)
  rw [hq.1]
  unfold wthO
  rw [worthW_ext (τ := oV (uG Ω σ) (σ 0 4)) (fun p hp F => ?_)]
  · rfl
  · rcases (show p = 0 ∨ p = 1 ∨ p = 2 by omega) with e | e | e <;> subst e
    · exact y0 F
    · exact y1 F
    · exact y2 F
theorem M_worthNow (hd : 5 ≤ d) (hW : WO Ω) (hI : InvM m Ω) : Meth l X d M_X11_worthNow [vR 12 243] m (fun r m' => r = some (vI (wthO Ω ((oG Ω) 0 4) (rowL (oG Ω)))) ∧ FrW m m') := M_worth (Ω := Ω) hd hI.1 hW.1 hW.2.2.1 hI.2.2.2.2.1
theorem pB_is {k : Int32} : (if k < -1 then (0 : Int32) else if 39 < k then 0 else 1) = pB k := by
  unfold pB
  by_cases h : k < -1
  · rw [if_pos h, if_pos h]
  · rw [if_neg h, if_neg h]
    have e39 : (39 : Int32).toInt = 39 := rfl
    have e40 : (40 : Int32).toInt = 40 := rfl
    by_cases h2 : 39 < k
    · rw [if_pos h2, if_neg (fun q => by have := Int32.lt_iff_toInt_lt.mp h2; have := Int32.lt_iff_toInt_lt.mp q; omega)]
    · rw [if_neg h2, if_pos (Int32.lt_iff_toInt_lt.mpr (by have : ¬ (39 : Int32).toInt < k.toInt := fun q => h2 (Int32.lt_iff_toInt_lt.mpr q); omega))]
theorem pB_k {k : Int32} (h : pB k = 1) (h1 : ¬ k = -1) : ∃ j, j < 40 ∧ k = nI j := by
  unfold pB at h
  by_cases q : k < -1
  · rw [if_pos q] at h; exact absurd h (by decide)
  · rw [if_neg q] at h
    by_cases q2 : k < 40
    · have h0 : ¬ k < 0 := fun z => h1 ((m1_lt q).mp z)
      obtain ⟨j, hj, rfl⟩ := nI_of h0
      exact ⟨j, (nI_ltI (b := 40) hj (by decide)).mp q2, rfl⟩
    · rw [if_neg q2] at h; exact absurd h (by decide)
theorem c_letAt1 {k : Int32} {w : Nat} {o : Option (List Nat)} {n : Int32} (hw : w < 8) (hp : pB k = 1) (hn : n = m 261 w) (ho : WFo o) (hy : RMs m w o) : Meth l X d M_X11_letterAt [vI k, vI n, vR 1320 260, vI (nI (40 * w))] m (fun r m' => r = some (vI (ansO o k)) ∧ m' = m) := by
  refine E_X11_letterAt (ls := [vI k, vI n, vR 1320 260, vI (nI (40 * w))]) rfl rfl ?_
  rw [hn]
  repeat refine AW.s rfl ?_
  try dsimp only [List.set_cons_zero, List.set_cons_succ, Option.toList_some, Option.toList_none, List.cons_append, List.nil_append]
  cases o with
  | none =>
    rw [show m 261 w = -3 from hy]
    refine AW.b rfl (fun hc => ?_) (fun hc => ?_)
    · repeat refine AW.s rfl ?_
      try dsimp only [List.set_cons_zero, List.set_cons_succ, Option.toList_some, Option.toList_none, List.cons_append, List.nil_append]
      exact AW.ri rfl rfl rfl ⟨rfl, rfl⟩
    · exact absurd rfl hc
  | some xs =>
    obtain ⟨g1, g2, g3⟩ := ho xs rfl
    rw [hy.1, ansO_some]
    refine AW.b rfl (fun hc => ?_) (fun hc => ?_)
    · exact absurd (by rw [← hc]; exact nI_pos (by omega) : ¬ (-3 : Int32) < 0) (by decide)
    · repeat refine AW.s rfl ?_
      try dsimp only [List.set_cons_zero, List.set_cons_succ, Option.toList_some, Option.toList_none, List.cons_append, List.nil_append]
      refine AW.b rfl (fun hc => ?_) (fun hc => ?_)
      · rw [if_pos hc]
        repeat refine AW.s rfl ?_
        try dsimp only [List.set_cons_zero, List.set_cons_succ, Option.toList_some, Option.toList_none, List.cons_append, List.nil_append]
        exact AW.ri rfl rfl rfl ⟨rfl, rfl⟩
      · rw [if_neg hc]
        obtain ⟨j, hj, rfl⟩ := pB_k hp hc
        rw [if_neg (nI_pos (by omega)), nI_clamp (by omega)]
        repeat refine AW.s rfl ?_
        try dsimp only [List.set_cons_zero, List.set_cons_succ, Option.toList_some, Option.toList_none, List.cons_append, List.nil_append]
        refine AW.b rfl (fun hc => ?_) (fun hc => ?_)
        · rw [if_pos hc]
          have hlt : j < xs.length := (nI_ltI (by omega) (by omega)).mp hc
          repeat refine AW.s rfl ?_
          try dsimp only [List.set_cons_zero, List.set_cons_succ, Option.toList_some, Option.toList_none, List.cons_append, List.nil_append]
          rw [nI_add]
          refine AW.c rfl (vp_in_nI (by omega) (by decide)) ?_
          try dsimp only [List.set_cons_zero, List.set_cons_succ, Option.toList_some, Option.toList_none, List.cons_append, List.nil_append]
          rw [nI_clamp (by omega), hy.2 j _ (List.getElem?_eq_getElem hlt), List.getD_eq_getElem?_getD, List.getElem?_eq_getElem hlt]
          repeat refine AW.s rfl ?_
          try dsimp only [List.set_cons_zero, List.set_cons_succ, Option.toList_some, Option.toList_none, List.cons_append, List.nil_append]
          exact AW.ri rfl rfl rfl ⟨rfl, rfl⟩
        · rw [if_neg hc]
          repeat refine AW.s rfl ?_
          try dsimp only [List.set_cons_zero, List.set_cons_succ, Option.toList_some, Option.toList_none, List.cons_append, List.nil_append]
          exact AW.ri rfl rfl rfl ⟨rfl, rfl⟩
theorem c_letAt2 {k : Int32} {o : Option (List Nat)} {n : Int32} (hp : pB k = 1) (hn : n = m 243 36) (ho : WFo o) (hy : RTn m o) : Meth l X d M_X11_letterAt [vI k, vI n, vR 1042 262, vI 0] m (fun r m' => r = some (vI (ansO o k)) ∧ m' = m) := by
  refine E_X11_letterAt (ls := [vI k, vI n, vR 1042 262, vI 0]) rfl rfl ?_
  rw [hn]
  repeat refine AW.s rfl ?_
  try dsimp only [List.set_cons_zero, List.set_cons_succ, Option.toList_some, Option.toList_none, List.cons_append, List.nil_append]
  cases o with
  | none =>
    rw [show m 243 36 = -3 from hy]
    refine AW.b rfl (fun hc => ?_) (fun hc => ?_)
    · repeat refine AW.s rfl ?_
      try dsimp only [List.set_cons_zero, List.set_cons_succ, Option.toList_some, Option.toList_none, List.cons_append, List.nil_append]
      exact AW.ri rfl rfl rfl ⟨rfl, rfl⟩
    · exact absurd rfl hc
  | some xs =>
    obtain ⟨g1, g2, g3⟩ := ho xs rfl
    rw [hy.1, ansO_some]
    refine AW.b rfl (fun hc => ?_) (fun hc => ?_)
    · exact absurd (by rw [← hc]; exact nI_pos (by omega) : ¬ (-3 : Int32) < 0) (by decide)
    · repeat refine AW.s rfl ?_
      try dsimp only [List.set_cons_zero, List.set_cons_succ, Option.toList_some, Option.toList_none, List.cons_append, List.nil_append]
      refine AW.b rfl (fun hc => ?_) (fun hc => ?_)
      · rw [if_pos hc]
        repeat refine AW.s rfl ?_
        try dsimp only [List.set_cons_zero, List.set_cons_succ, Option.toList_some, Option.toList_none, List.cons_append, List.nil_append]
        exact AW.ri rfl rfl rfl ⟨rfl, rfl⟩
      · rw [if_neg hc]
        obtain ⟨j, hj, rfl⟩ := pB_k hp hc
        rw [if_neg (nI_pos (by omega)), nI_clamp (by omega)]
        repeat refine AW.s rfl ?_
        try dsimp only [List.set_cons_zero, List.set_cons_succ, Option.toList_some, Option.toList_none, List.cons_append, List.nil_append]
        refine AW.b rfl (fun hc => ?_) (fun hc => ?_)
        · rw [if_pos hc]
          have hlt : j < xs.length := (nI_ltI (by omega) (by omega)).mp hc
          repeat refine AW.s rfl ?_
          try dsimp only [List.set_cons_zero, List.set_cons_succ, Option.toList_some, Option.toList_none, List.cons_append, List.nil_append]
          rw [show (0 : Int32) + nI j = nI j from by rw [show (0 : Int32) + nI j = nI (0 + j) from nI_add 0 j, Nat.zero_add]]
          refine AW.c rfl (vp_in_nI (by omega) (by decide)) ?_
          try dsimp only [List.set_cons_zero, List.set_cons_succ, Option.toList_some, Option.toList_none, List.cons_append, List.nil_append]
          rw [nI_clamp (by omega), hy.2 j _ (List.getElem?_eq_getElem hlt), List.getD_eq_getElem?_getD, List.getElem?_eq_getElem hlt]
          repeat refine AW.s rfl ?_
          try dsimp only [List.set_cons_zero, List.set_cons_succ, Option.toList_some, Option.toList_none, List.cons_append, List.nil_append]
          exact AW.ri rfl rfl rfl ⟨rfl, rfl⟩
        · rw [if_neg hc]
          repeat refine AW.s rfl ?_
          try dsimp only [List.set_cons_zero, List.set_cons_succ, Option.toList_some, Option.toList_none, List.cons_append, List.nil_append]
          exact AW.ri rfl rfl rfl ⟨rfl, rfl⟩
theorem M_said {a k : Int32} (hd : 5 ≤ d) (hW : WO Ω) (hI : InvM m Ω) : Meth l X d M_X11_said [vR 12 243, vI a, vI k] m (fun r m' => r = some (vI (saidF Ω a k)) ∧ FrM m m') := by
  obtain ⟨d, rfl⟩ : ∃ e, d = e + 1 := ⟨d - 1, by omega⟩
  have h1 := hW.1.2.1
  refine E_X11_said (ls := [vR 12 243, vI a, vI k]) rfl rfl ?_
  repeat refine AW.s rfl ?_
  try dsimp only [List.set_cons_zero, List.set_cons_succ, Option.toList_some, Option.toList_none, List.cons_append, List.nil_append]
  refine AW.V k_11_58 ((c_Mword (by omega) hI.1 hW.1)) rfl rfl rfl rfl rfl rfl (fun r1 m9 hq => ?_)
  obtain ⟨rfl, hm9⟩ := hq
  rw [hm9]
  try dsimp only [List.set_cons_zero, List.set_cons_succ, Option.toList_some, Option.toList_none, List.cons_append, List.nil_append]
  by_cases q1 : hB a ((oG Ω) 0 1) = 1
  · rw [q1]
    refine AW.b rfl (fun hc => ?_) (fun hc => ?_)
    · exact absurd hc (by decide)
    · repeat refine AW.s rfl ?_
      try dsimp only [List.set_cons_zero, List.set_cons_succ, Option.toList_some, Option.toList_none, List.cons_append, List.nil_append]
      refine AW.S k_11_7 (c_isIn) rfl rfl rfl rfl (fun r1 m8 hq => ?_)
      obtain ⟨rfl, hm8⟩ := hq
      rw [hm8, pB_is]
      try dsimp only [List.set_cons_zero, List.set_cons_succ, Option.toList_some, Option.toList_none, List.cons_append, List.nil_append]
      rcases pB_01 k with q2 | q2
      · have e0 : saidF Ω a k = -2 := by unfold saidF; rw [if_pos q1, if_neg (by rw [q2]; decide)]
        rw [q2, e0]
        refine AW.b rfl (fun hc => ?_) (fun hc => ?_)
        · repeat refine AW.s rfl ?_
          try dsimp only [List.set_cons_zero, List.set_cons_succ, Option.toList_some, Option.toList_none, List.cons_append, List.nil_append]
          exact AW.ri rfl rfl rfl ⟨rfl, FrM.rf⟩
        · exact absurd rfl hc
      · obtain ⟨w, hw, rfl⟩ := (hB_1 (by omega)).mp q1
        have e0 : saidF Ω (nI w) k = ansO (saidS (oG Ω) (rowL (oG Ω)) w) k := by unfold saidF; rw [if_pos q1, if_pos q2, nI_clamp (by omega)]
        rw [q2, e0]
        refine AW.b rfl (fun hc => ?_) (fun hc => ?_)
        · exact absurd hc (by decide)
        · repeat refine AW.s rfl ?_
          try dsimp only [List.set_cons_zero, List.set_cons_succ, Option.toList_some, Option.toList_none, List.cons_append, List.nil_append]
          refine AW.V k_11_238 ((c_Msay (by omega) hI.1 hW.1 hw)) rfl rfl rfl rfl rfl rfl (fun r1 m7 hq => ?_)
          obtain ⟨rfl, p1, p2, p3⟩ := hq
          repeat refine AW.s rfl ?_
          try dsimp only [List.set_cons_zero, List.set_cons_succ, Option.toList_some, Option.toList_none, List.cons_append, List.nil_append]
          refine AW.c rfl (vp_in_nI (by omega) (by decide)) ?_
          try dsimp only [List.set_cons_zero, List.set_cons_succ, Option.toList_some, Option.toList_none, List.cons_append, List.nil_append]
          rw [nI_clamp (by omega)]
          repeat refine AW.s rfl ?_
          try dsimp only [List.set_cons_zero, List.set_cons_succ, Option.toList_some, Option.toList_none, List.cons_append, List.nil_append]
          rw [show (40 : Int32) * nI w = nI (40 * w) from pk_mul 40 w]
          refine AW.S k_11_241 ((c_letAt1 (w := w) (by omega) q2 rfl (saidS_wf hW.1 (rowL_wf hW.1) hw) p1)) rfl rfl rfl rfl (fun r1 m6 hq => ?_)
          obtain ⟨rfl, hm6⟩ := hq
          rw [hm6]
          exact AW.ri rfl rfl rfl ⟨rfl, p2.M⟩
  · have e0 : saidF Ω a k = -2 := by unfold saidF; rw [if_neg q1]
    rw [hB_0 q1, e0]
    refine AW.b rfl (fun hc => ?_) (fun hc => ?_)
    · repeat refine AW.s rfl ?_
      try dsimp only [List.set_cons_zero, List.set_cons_succ, Option.toList_some, Option.toList_none, List.cons_append, List.nil_append]
      exact AW.ri rfl rfl rfl ⟨rfl, FrM.rf⟩
    · exact absurd rfl hc
theorem M_turned {a b k : Int32} (hd : 5 ≤ d) (hW : WO Ω) (hI : InvM m Ω) : Meth l X d M_X11_turned [vR 12 243, vI a, vI b, vI k] m (fun r m' => r = some (vI (turnedF Ω a b k)) ∧ FrM m m') := by
  obtain ⟨d, rfl⟩ : ∃ e, d = e + 1 := ⟨d - 1, by omega⟩
  have h1 := hW.1.2.1
  have h2 := hW.1.2.2.1
  have hbad : turnedF Ω a b k = -2 → AW (GM l X (d + 1) M_X11_turned (fun r m' => r = some (vI (turnedF Ω a b k)) ∧ FrM m m')) 26 [vR 12 243, vI a, vI b, vI k] [] m := by
    intro e0
    rw [e0]
    repeat refine AW.s rfl ?_
    try dsimp only [List.set_cons_zero, List.set_cons_succ, Option.toList_some, Option.toList_none, List.cons_append, List.nil_append]
    exact AW.ri rfl rfl rfl ⟨rfl, FrM.rf⟩
  refine E_X11_turned (ls := [vR 12 243, vI a, vI b, vI k]) rfl rfl ?_
  repeat refine AW.s rfl ?_
  try dsimp only [List.set_cons_zero, List.set_cons_succ, Option.toList_some, Option.toList_none, List.cons_append, List.nil_append]
  refine AW.V k_11_58 ((c_Mword (by omega) hI.1 hW.1)) rfl rfl rfl rfl rfl rfl (fun r1 m9 hq => ?_)
  obtain ⟨rfl, hm9⟩ := hq
  rw [hm9]
  try dsimp only [List.set_cons_zero, List.set_cons_succ, Option.toList_some, Option.toList_none, List.cons_append, List.nil_append]
  by_cases q1 : hB a ((oG Ω) 0 1) = 1
  · rw [q1]
    refine AW.b rfl (fun hc => ?_) (fun hc => ?_)
    · exact absurd hc (by decide)
    · repeat refine AW.s rfl ?_
      try dsimp only [List.set_cons_zero, List.set_cons_succ, Option.toList_some, Option.toList_none, List.cons_append, List.nil_append]
      refine AW.V k_11_46 ((c_Mrule (by omega) hI.1 hW.1)) rfl rfl rfl rfl rfl rfl (fun r1 m5 hq => ?_)
      obtain ⟨rfl, hm5⟩ := hq
      rw [hm5]
      try dsimp only [List.set_cons_zero, List.set_cons_succ, Option.toList_some, Option.toList_none, List.cons_append, List.nil_append]
      by_cases q3 : hB b ((oG Ω) 0 2) = 1
      · rw [q3]
        refine AW.b rfl (fun hc => ?_) (fun hc => ?_)
        · exact absurd hc (by decide)
        · repeat refine AW.s rfl ?_
          try dsimp only [List.set_cons_zero, List.set_cons_succ, Option.toList_some, Option.toList_none, List.cons_append, List.nil_append]
          refine AW.S k_11_7 (c_isIn) rfl rfl rfl rfl (fun r1 m8 hq => ?_)
          obtain ⟨rfl, hm8⟩ := hq
          rw [hm8, pB_is]
          try dsimp only [List.set_cons_zero, List.set_cons_succ, Option.toList_some, Option.toList_none, List.cons_append, List.nil_append]
          rcases pB_01 k with q2 | q2
          · rw [q2]
            refine AW.b rfl (fun hc => ?_) (fun hc => ?_)
            · exact hbad (by unfold turnedF; rw [if_pos q1, if_pos q3, if_neg (by rw [q2]; decide)])
            · exact absurd rfl hc
          · obtain ⟨w, hw, rfl⟩ := (hB_1 (by omega)).mp q1
            obtain ⟨r, hr, rfl⟩ := (hB_1 (by omega)).mp q3
            have e0 : turnedF Ω (nI w) (nI r) k = ansO (turnS (oG Ω) r (some (wl (oG Ω) w))) k := by unfold turnedF; rw [if_pos q1, if_pos q3, if_pos q2, nI_clamp (by omega), nI_clamp (by omega)]
            rw [q2, e0]
            refine AW.b rfl (fun hc => ?_) (fun hc => ?_)
            · exact absurd hc (by decide)
            · repeat refine AW.s rfl ?_
              try dsimp only [List.set_cons_zero, List.set_cons_succ, Option.toList_some, Option.toList_none, List.cons_append, List.nil_append]
              refine AW.V k_11_232 ((c_Mbegin hI.1 hW.1 hw)) rfl rfl rfl rfl rfl rfl (fun r1 m7 hq => ?_)
              obtain ⟨rfl, p1, p2⟩ := hq
              repeat refine AW.s rfl ?_
              try dsimp only [List.set_cons_zero, List.set_cons_succ, Option.toList_some, Option.toList_none, List.cons_append, List.nil_append]
              refine AW.V k_11_229 ((c_Mturn (by omega) (hI.1.T p2) hW.1 hr p1 (wl_wf hW.1 hw))) rfl rfl rfl rfl rfl rfl (fun r1 m6 hq => ?_)
              obtain ⟨rfl, p3, p4⟩ := hq
              repeat refine AW.s rfl ?_
              try dsimp only [List.set_cons_zero, List.set_cons_succ, Option.toList_some, Option.toList_none, List.cons_append, List.nil_append]
              refine AW.S k_11_241 ((c_letAt2 q2 rfl (turnS_wf hW.1 hr (wl_wf hW.1 hw)) p3)) rfl rfl rfl rfl (fun r1 m4 hq => ?_)
              obtain ⟨rfl, hm4⟩ := hq
              rw [hm4]
              exact AW.ri rfl rfl rfl ⟨rfl, (p2.tr p4).M⟩
      · rw [hB_0 q3]
        refine AW.b rfl (fun hc => ?_) (fun hc => ?_)
        · exact hbad (by unfold turnedF; rw [if_pos q1, if_neg q3])
        · exact absurd rfl hc
  · rw [hB_0 q1]
    refine AW.b rfl (fun hc => ?_) (fun hc => ?_)
    · exact hbad (by unfold turnedF; rw [if_neg q1])
    · exact absurd rfl hc
theorem c_MasItWas {w : Nat} {σ : Sg} {o : Option (List Nat)} (hs : RepM m σ) (hσ : WF σ) (hw : w < σ 0 1) (hy : RTn m o) (ho : WFo o) : Meth l X d M_X11_isAsItWas [vR 12 243, vI (nI w)] m (fun r m' => ∃ b : Bool, r = some (vI (if b then 1 else 0)) ∧ (b = true ↔ o = some (wl σ w)) ∧ m' = m) := by
  have hw8 : w < 8 := Nat.lt_of_lt_of_le hw hσ.2.1
  obtain ⟨q1, q2, q3⟩ := hs.2.2.2.2.2.1 w hw
  obtain ⟨z1, z2, -⟩ := hσ.2.2.2.2.2.1 w hw
  -- the loop, with what was found of the length
  have key : ∀ b0 : Bool, (b0 = true → ∃ xs, o = some xs ∧ xs.length = σ 1 w) → (b0 = false → ¬ o = some (wl σ w)) → AW (GM l X d M_X11_isAsItWas (fun r m' => ∃ b : Bool, r = some (vI (if b then 1 else 0)) ∧ (b = true ↔ o = some (wl σ w)) ∧ m' = m)) 21 [vR 12 243, vI (nI w), vI (if b0 then 1 else 0), vI (nI 0)] [] m := by
    intro b0 hb1 hb0
    refine AW.loop (pc := 21) (σ := Bool) (σ 1 w) (fun k bb => [vR 12 243, vI (nI w), vI (if bb then 1 else 0), vI (nI k)]) (fun k bb m1 => m1 = m ∧ (bb = true → b0 = true ∧ ∀ xs, o = some xs → ∀ j x, j < k → xs[j]? = some x → x = σ (10 + w) j) ∧ (bb = false → ¬ o = some (wl σ w))) (fun k bb m1 hk hm1 ih => ?_) 0 b0 m (Nat.zero_le _) ⟨rfl, fun e => ⟨e, fun xs _ j x hj => absurd hj (by omega)⟩, hb0⟩
    obtain ⟨rfl, hbt, hbf⟩ := hm1
    repeat refine AW.s rfl ?_
    try dsimp only [List.set_cons_zero, List.set_cons_succ, Option.toList_some, Option.toList_none, List.cons_append, List.nil_append]
    refine AW.c rfl (vp_in_nI (by omega) (by decide)) ?_
    try dsimp only [List.set_cons_zero, List.set_cons_succ, Option.toList_some, Option.toList_none, List.cons_append, List.nil_append]
    rw [nI_clamp (by omega), show m1 (243 + 2) w = nI (σ 1 w) from q1]
    refine AW.b rfl (fun hc => ?_) (fun hc => ?_)
    · have hlt : k < σ 1 w := (nI_ltI (by omega) (by omega)).mp hc
      repeat refine AW.s rfl ?_
      try dsimp only [List.set_cons_zero, List.set_cons_succ, Option.toList_some, Option.toList_none, List.cons_append, List.nil_append]
      cases bb with
      | false =>
        refine AW.b rfl (fun hc => ?_) (fun hc => ?_)
        · repeat refine AW.s rfl ?_
          try dsimp only [List.set_cons_zero, List.set_cons_succ, Option.toList_some, Option.toList_none, List.cons_append, List.nil_append]
          exact AW.ri rfl rfl rfl ⟨false, rfl, ⟨fun q => (by cases q), fun q => absurd q (hbf rfl)⟩, rfl⟩
        · exact absurd rfl hc
      | true =>
        obtain ⟨t1, t2⟩ := hbt rfl
        obtain ⟨xs, rfl, hxl⟩ := hb1 t1
        obtain ⟨x, hx⟩ : ∃ x, xs[k]? = some x := ⟨_, List.getElem?_eq_getElem (by omega)⟩
        obtain ⟨g1, g2, g3⟩ := ho xs rfl
        have hx26 : x < 26 := g1 x (List.mem_of_getElem? hx)
        have hl26 := (hσ.2.2.2.2.2.1 w hw).2.2.2 k hlt
        refine AW.b rfl (fun hc => ?_) (fun hc => ?_)
        · exact absurd (show (1 : Int32) = 0 from hc) (by decide)
        · repeat refine AW.s rfl ?_
          try dsimp only [List.set_cons_zero, List.set_cons_succ, Option.toList_some, Option.toList_none, List.cons_append, List.nil_append]
          refine AW.c rfl (vp_in_nI (by omega) (by decide)) ?_
          try dsimp only [List.set_cons_zero, List.set_cons_succ, Option.toList_some, Option.toList_none, List.cons_append, List.nil_append]
          rw [nI_clamp (by omega), show m1 (243 + 19) k = nI x from hy.2 k x hx]
          repeat refine AW.s rfl ?_
          try dsimp only [List.set_cons_zero, List.set_cons_succ, Option.toList_some, Option.toList_none, List.cons_append, List.nil_append]
          rw [show (10 : Int32) * nI w = nI (10 * w) from pk_mul 10 w, nI_add]
          refine AW.c rfl (vp_in_nI (by omega) (by decide)) ?_
          try dsimp only [List.set_cons_zero, List.set_cons_succ, Option.toList_some, Option.toList_none, List.cons_append, List.nil_append]
          rw [nI_clamp (by omega), show m1 (243 + 1) (10 * w + k) = nI (σ (10 + w) k) from q3 k hlt]
          refine AW.b rfl (fun hc => ?_) (fun hc => ?_)
          · have e : x = σ (10 + w) k := (nI_eq (by omega) (by omega)).mp hc
            repeat refine AW.u 21 rfl rfl ?_
            try dsimp only [List.set_cons_zero, List.set_cons_succ, Option.toList_some, Option.toList_none, List.cons_append, List.nil_append]
            rw [nI_1]
            refine ih true m1 hlt ⟨rfl, fun _ => ⟨t1, fun ys ey j y hj hjy => ?_⟩, fun q => by cases q⟩
            cases ey
            by_cases e2 : j = k
            · subst e2; rw [hx] at hjy; cases hjy; exact e
            · exact t2 xs rfl j y (by omega) hjy
          · have e : ¬ x = σ (10 + w) k := fun q => hc (by rw [q])
            repeat refine AW.u 21 rfl rfl ?_
            try dsimp only [List.set_cons_zero, List.set_cons_succ, Option.toList_some, Option.toList_none, List.cons_append, List.nil_append]
            rw [nI_1]
            refine ih false m1 hlt ⟨rfl, fun q => (by cases q), fun _ q => ?_⟩
            cases q
            have := (wl_get hx).2
            exact e this
    · have : k = σ 1 w := by
        have : ¬ k < σ 1 w := fun q => hc ((nI_ltI (by omega) (by omega)).mpr q)
        omega
      subst this
      repeat refine AW.s rfl ?_
      try dsimp only [List.set_cons_zero, List.set_cons_succ, Option.toList_some, Option.toList_none, List.cons_append, List.nil_append]
      cases bb with
      | false => exact AW.ri rfl rfl rfl ⟨false, rfl, ⟨fun q => (by cases q), fun q => absurd q (hbf rfl)⟩, rfl⟩
      | true =>
        obtain ⟨t1, t2⟩ := hbt rfl
        obtain ⟨xs, rfl, hxl⟩ := hb1 t1
        refine AW.ri rfl rfl rfl ⟨true, rfl, ⟨fun _ => ?_, fun _ => rfl⟩, rfl⟩
        congr 1
        apply List.ext_getElem?
        intro j
        by_cases hj : j < σ 1 w
        · obtain ⟨x, hx⟩ : ∃ x, xs[j]? = some x := ⟨_, List.getElem?_eq_getElem (by omega)⟩
          rw [hx, wl_at hj, t2 xs rfl j x hj hx]
        · rw [List.getElem?_eq_none (by omega), List.getElem?_eq_none (by rw [wl_len]; omega)]
  refine E_X11_isAsItWas (ls := [vR 12 243, vI (nI w), vU, vU]) rfl rfl ?_
  repeat refine AW.s rfl ?_
  try dsimp only [List.set_cons_zero, List.set_cons_succ, Option.toList_some, Option.toList_none, List.cons_append, List.nil_append]
  refine AW.c rfl (vp_in_nI (by omega) (by decide)) ?_
  try dsimp only [List.set_cons_zero, List.set_cons_succ, Option.toList_some, Option.toList_none, List.cons_append, List.nil_append]
  rw [nI_clamp (by omega), show m (243 + 2) w = nI (σ 1 w) from q1]
  cases o with
  | none =>
    rw [show m 243 36 = -3 from hy]
    refine AW.b rfl (fun hc => ?_) (fun hc => ?_)
    · exact absurd (by rw [hc]; exact nI_pos (by omega) : ¬ (-3 : Int32) < 0) (by decide)
    · repeat refine AW.u 21 rfl rfl ?_
      try dsimp only [List.set_cons_zero, List.set_cons_succ, Option.toList_some, Option.toList_none, List.cons_append, List.nil_append]
      exact key false (fun q => (by cases q)) (fun _ q => (by cases q))
  | some xs =>
    obtain ⟨g1, g2, g3⟩ := ho xs rfl
    rw [show m 243 36 = nI xs.length from hy.1]
    refine AW.b rfl (fun hc => ?_) (fun hc => ?_)
    · have e : xs.length = σ 1 w := (nI_eq (by omega) (by omega)).mp hc
      repeat refine AW.u 21 rfl rfl ?_
      try dsimp only [List.set_cons_zero, List.set_cons_succ, Option.toList_some, Option.toList_none, List.cons_append, List.nil_append]
      exact key true (fun _ => ⟨xs, rfl, e⟩) (fun q => (by cases q))
    · have e : ¬ xs.length = σ 1 w := fun q => hc (by rw [q])
      repeat refine AW.u 21 rfl rfl ?_
      try dsimp only [List.set_cons_zero, List.set_cons_succ, Option.toList_some, Option.toList_none, List.cons_append, List.nil_append]
      exact key false (fun q => (by cases q)) (fun _ q => e (by cases q; exact wl_len))
theorem rndF_none {σ : Sg} {w : Nat} (f : Nat) : ∀ n, rndF σ w f n none = -1 := by
  induction f with
  | zero => intro n; rfl
  | succ f ih =>
    intro n
    show (if sayR σ (rowL σ) none = some (wl σ w) then nI n else rndF σ w f (n + 1) (sayR σ (rowL σ) none)) = -1
    rw [sayR_none, if_neg (fun q => by cases q)]
    exact ih (n + 1)
theorem c_Mround {w : Nat} {σ : Sg} (hd : 4 ≤ d) (hs : RepM m σ) (hσ : WF σ) (hw : w < σ 0 1) : Meth l X d M_X11_round [vR 12 243, vI (nI w)] m (fun r1 m' => r1 = some (vI (rndF σ w 60 1 (some (wl σ w)))) ∧ FrT m m') := by
  obtain ⟨d, rfl⟩ : ∃ e, d = e + 1 := ⟨d - 1, by omega⟩
  refine E_X11_round (ls := [vR 12 243, vI (nI w), vU]) rfl rfl ?_
  repeat refine AW.s rfl ?_
  try dsimp only [List.set_cons_zero, List.set_cons_succ, Option.toList_some, Option.toList_none, List.cons_append, List.nil_append]
  refine AW.V k_11_232 ((c_Mbegin hs hσ hw)) rfl rfl rfl rfl rfl rfl (fun r1 m1 hq => ?_)
  obtain ⟨rfl, p1, p2⟩ := hq
  repeat refine AW.u 7 rfl rfl ?_
  try dsimp only [List.set_cons_zero, List.set_cons_succ, Option.toList_some, Option.toList_none, List.cons_append, List.nil_append]
  refine AW.loop (pc := 7) (σ := Option (List Nat)) 60 (fun i _ => [vR 12 243, vI (nI w), vI (nI (i + 1))]) (fun i o m2 => FrT m m2 ∧ RTn m2 o ∧ WFo o ∧ rndF σ w 60 1 (some (wl σ w)) = rndF σ w (60 - i) (i + 1) o) (fun i o m2 hi hm2 ih => ?_) 0 (some (wl σ w)) m1 (Nat.zero_le _) ⟨p2, p1, wl_wf hσ hw, rfl⟩
  obtain ⟨hf, hy, ho, hr⟩ := hm2
  have hs2 := hs.T hf
  repeat refine AW.s rfl ?_
  try dsimp only [List.set_cons_zero, List.set_cons_succ, Option.toList_some, Option.toList_none, List.cons_append, List.nil_append]
  refine AW.b rfl (fun hc => ?_) (fun hc => ?_)
  · have hge : 60 < i + 1 := (nI_ltI (a := 60) (by decide) (by omega)).mp hc
    have : i = 60 := by omega
    subst this
    repeat refine AW.s rfl ?_
    try dsimp only [List.set_cons_zero, List.set_cons_succ, Option.toList_some, Option.toList_none, List.cons_append, List.nil_append]
    exact AW.ri rfl rfl rfl ⟨by rw [hr]; rfl, hf⟩
  · have hlt : i < 60 := by
      have : ¬ 60 < i + 1 := fun q => hc (nI_lt (a := 60) q (by omega))
      omega
    obtain ⟨f, hff⟩ : ∃ f, 60 - i = f + 1 := ⟨60 - i - 1, by omega⟩
    rw [hff] at hr
    have hr : rndF σ w 60 1 (some (wl σ w)) = if sayR σ (rowL σ) o = some (wl σ w) then nI (i + 1) else rndF σ w f (i + 1 + 1) (sayR σ (rowL σ) o) := hr
    have hwf := sayR_wf hσ _ (rowL_wf hσ).2 ho
    repeat refine AW.s rfl ?_
    try dsimp only [List.set_cons_zero, List.set_cons_succ, Option.toList_some, Option.toList_none, List.cons_append, List.nil_append]
    refine AW.V k_11_235 ((c_MturnByRow (by omega) hs2 hσ hy ho)) rfl rfl rfl rfl rfl rfl (fun r1 m3 hq => ?_)
    obtain ⟨rfl, p3, p4⟩ := hq
    have hf3 := hf.tr p4
    generalize sayR σ (rowL σ) o = o2 at p3 hr hwf
    repeat refine AW.s rfl ?_
    try dsimp only [List.set_cons_zero, List.set_cons_succ, Option.toList_some, Option.toList_none, List.cons_append, List.nil_append]
    cases o2 with
    | none =>
      rw [show m3 243 36 = -3 from p3]
      rw [if_neg (fun q => by cases q), rndF_none] at hr
      refine AW.b rfl (fun hc => ?_) (fun hc => ?_)
      · repeat refine AW.s rfl ?_
        try dsimp only [List.set_cons_zero, List.set_cons_succ, Option.toList_some, Option.toList_none, List.cons_append, List.nil_append]
        exact AW.ri rfl rfl rfl ⟨by rw [hr], hf3⟩
      · exact absurd rfl hc
    | some ys =>
      obtain ⟨g1, g2, g3⟩ := hwf ys rfl
      rw [show m3 243 36 = nI ys.length from p3.1]
      refine AW.b rfl (fun hc => ?_) (fun hc => ?_)
      · exact absurd (by rw [← hc]; exact nI_pos (by omega) : ¬ (-3 : Int32) < 0) (by decide)
      · repeat refine AW.s rfl ?_
        try dsimp only [List.set_cons_zero, List.set_cons_succ, Option.toList_some, Option.toList_none, List.cons_append, List.nil_append]
        refine AW.V k_11_262 ((c_MasItWas (hs.T hf3) hσ hw p3 hwf)) rfl rfl rfl rfl rfl rfl (fun r1 m4 hq => ?_)
        obtain ⟨b, rfl, hb, hm4⟩ := hq
        rw [hm4]
        try dsimp only [List.set_cons_zero, List.set_cons_succ, Option.toList_some, Option.toList_none, List.cons_append, List.nil_append]
        cases b with
        | true =>
          rw [if_pos (hb.mp rfl)] at hr
          refine AW.b rfl (fun hc => ?_) (fun hc => ?_)
          · exact absurd (show (1 : Int32) = 0 from hc) (by decide)
          · repeat refine AW.s rfl ?_
            try dsimp only [List.set_cons_zero, List.set_cons_succ, Option.toList_some, Option.toList_none, List.cons_append, List.nil_append]
            exact AW.ri rfl rfl rfl ⟨by rw [hr], hf3⟩
        | false =>
          rw [if_neg (fun q => by cases hb.mpr q)] at hr
          refine AW.b rfl (fun hc => ?_) (fun hc => ?_)
          · repeat refine AW.u 7 rfl rfl ?_
            try dsimp only [List.set_cons_zero, List.set_cons_succ, Option.toList_some, Option.toList_none, List.cons_append, List.nil_append]
            rw [nI_1]
            exact ih (some ys) _ hlt ⟨hf3, p3, hwf, by rw [hr, show 60 - (i + 1) = f by omega]⟩
          · exact absurd rfl hc
theorem c_Midle {σ : Sg} (hd : 3 ≤ d) (hs : RepM m σ) (hσ : WF σ) : Meth l X d M_X11_idle [vR 12 243] m (fun r1 m' => ∃ x, r1 = some (vI x) ∧ isBits x (fun r => r < σ 0 2 ∧ idleP σ r) ∧ FrT m m') := by
  obtain ⟨d, rfl⟩ : ∃ e, d = e + 1 := ⟨d - 1, by omega⟩
  have h6 := hσ.2.2.1
  have h8 := hσ.2.1
  refine E_X11_idle (ls := [vR 12 243, vU, vU, vU, vU]) rfl rfl ?_
  repeat refine AW.u 4 rfl rfl ?_
  try dsimp only [List.set_cons_zero, List.set_cons_succ, Option.toList_some, Option.toList_none, List.cons_append, List.nil_append]
  refine AW.loop (pc := 4) (σ := Int32) (σ 0 2) (fun i x => [vR 12 243, vI x, vI (nI i), vU, vU]) (fun i x m1 => FrT m m1 ∧ isBits x (fun r => r < i ∧ idleP σ r)) (fun i x m1 hi hm1 ih => ?_) 0 0 m (Nat.zero_le _) ⟨FrT.rf, isBits.zero.to (fun b => ⟨fun q => absurd q id, fun q => absurd q.1 (by omega)⟩)⟩
  obtain ⟨hf, hb⟩ := hm1
  have hs1 := hs.T hf
  repeat refine AW.s rfl ?_
  try dsimp only [List.set_cons_zero, List.set_cons_succ, Option.toList_some, Option.toList_none, List.cons_append, List.nil_append]
  rw [show m1 243 5 = nI (σ 0 2) from hs1.2.2.1]
  refine AW.b rfl (fun hc => ?_) (fun hc => ?_)
  · have hlt : i < σ 0 2 := (nI_ltI (by omega) (by omega)).mp hc
    -- behind the inner loop
    have fin : ∀ (bb : Bool) (y : AV) (m2 : Mem), (bb = true ↔ idleP σ i) → FrT m m2 → AW (GM l X (d + 1) M_X11_idle (fun r1 m' => ∃ x, r1 = some (vI x) ∧ isBits x (fun r => r < σ 0 2 ∧ idleP σ r) ∧ FrT m m')) 54 [vR 12 243, vI x, vI (nI i), vI (if bb then 1 else 0), y] [] m2 := by
      intro bb y m2 hbb hf2
      repeat refine AW.s rfl ?_
      try dsimp only [List.set_cons_zero, List.set_cons_succ, Option.toList_some, Option.toList_none, List.cons_append, List.nil_append]
      cases bb with
      | true =>
        refine AW.b rfl (fun hc => ?_) (fun hc => ?_)
        · exact absurd (show (1 : Int32) = 0 from hc) (by decide)
        · repeat refine AW.u 4 rfl rfl ?_
          try dsimp only [List.set_cons_zero, List.set_cons_succ, Option.toList_some, Option.toList_none, List.cons_append, List.nil_append]
          refine AW.fg 3 ?_
          refine AW.fg 4 ?_
          try dsimp only [List.set_cons_zero, List.set_cons_succ, Option.toList_some, Option.toList_none, List.cons_append, List.nil_append]
          rw [nI_1]
          refine ih _ _ hlt ⟨hf2, (hb.or (k := i) (by omega)).to (fun r => ⟨fun q => ?_, fun q => ?_⟩)⟩
          · rcases q with q | rfl
            · exact ⟨by omega, q.2⟩
            · exact ⟨by omega, hbb.mp rfl⟩
          · by_cases e : r = i
            · exact Or.inr e
            · exact Or.inl ⟨by omega, q.2⟩
      | false =>
        refine AW.b rfl (fun hc => ?_) (fun hc => ?_)
        · repeat refine AW.u 4 rfl rfl ?_
          try dsimp only [List.set_cons_zero, List.set_cons_succ, Option.toList_some, Option.toList_none, List.cons_append, List.nil_append]
          refine AW.fg 3 ?_
          refine AW.fg 4 ?_
          try dsimp only [List.set_cons_zero, List.set_cons_succ, Option.toList_some, Option.toList_none, List.cons_append, List.nil_append]
          rw [nI_1, show x ||| 0 = x by simp]
          refine ih _ _ hlt ⟨hf2, hb.to (fun r => ⟨fun q => ⟨by omega, q.2⟩, fun q => ?_⟩)⟩
          by_cases e : r = i
          · subst e; exact absurd (hbb.mpr q.2) (by decide)
          · exact ⟨by omega, q.2⟩
        · exact absurd rfl hc
    repeat refine AW.u 17 rfl rfl ?_
    try dsimp only [List.set_cons_zero, List.set_cons_succ, Option.toList_some, Option.toList_none, List.cons_append, List.nil_append]
    refine AW.loop (pc := 17) (σ := Bool) (σ 0 1) (fun w bb => [vR 12 243, vI x, vI (nI i), vI (if bb then 1 else 0), vI (nI w)]) (fun w bb m2 => FrT m m2 ∧ (bb = true → ∀ v, v < w → turnS σ i (some (wl σ v)) = some (wl σ v)) ∧ (bb = false → ¬ idleP σ i)) (fun w bb m2 hw hm2 ih2 => ?_) 0 true m1 (Nat.zero_le _) ⟨hf, fun _ v hv => absurd hv (by omega), fun q => by cases q⟩
    obtain ⟨hf2, hbt, hbf⟩ := hm2
    have hs2 := hs.T hf2
    repeat refine AW.s rfl ?_
    try dsimp only [List.set_cons_zero, List.set_cons_succ, Option.toList_some, Option.toList_none, List.cons_append, List.nil_append]
    rw [show m2 243 1 = nI (σ 0 1) from hs2.2.1]
    refine AW.b rfl (fun hc => ?_) (fun hc => ?_)
    · have hlw : w < σ 0 1 := (nI_ltI (by omega) (by omega)).mp hc
      repeat refine AW.s rfl ?_
      try dsimp only [List.set_cons_zero, List.set_cons_succ, Option.toList_some, Option.toList_none, List.cons_append, List.nil_append]
      cases bb with
      | false =>
        refine AW.b rfl (fun hc => ?_) (fun hc => ?_)
        · exact fin false _ m2 ⟨fun q => (by cases q), fun q => absurd q (hbf rfl)⟩ hf2
        · exact absurd rfl hc
      | true =>
        have hbt := hbt rfl
        refine AW.b rfl (fun hc => ?_) (fun hc => ?_)
        · exact absurd (show (1 : Int32) = 0 from hc) (by decide)
        · repeat refine AW.s rfl ?_
          try dsimp only [List.set_cons_zero, List.set_cons_succ, Option.toList_some, Option.toList_none, List.cons_append, List.nil_append]
          refine AW.V k_11_232 ((c_Mbegin hs2 hσ hlw)) rfl rfl rfl rfl rfl rfl (fun r1 m3 hq => ?_)
          obtain ⟨rfl, p1, p2⟩ := hq
          repeat refine AW.s rfl ?_
          try dsimp only [List.set_cons_zero, List.set_cons_succ, Option.toList_some, Option.toList_none, List.cons_append, List.nil_append]
          refine AW.V k_11_229 ((c_Mturn (by omega) (hs2.T p2) hσ hlt p1 (wl_wf hσ hlw))) rfl rfl rfl rfl rfl rfl (fun r1 m4 hq => ?_)
          obtain ⟨rfl, p3, p4⟩ := hq
          have hf4 := (hf2.tr p2).tr p4
          repeat refine AW.s rfl ?_
          try dsimp only [List.set_cons_zero, List.set_cons_succ, Option.toList_some, Option.toList_none, List.cons_append, List.nil_append]
          refine AW.V k_11_262 ((c_MasItWas (hs.T hf4) hσ hlw p3 (turnS_wf hσ hlt (wl_wf hσ hlw)))) rfl rfl rfl rfl rfl rfl (fun r1 m5 hq => ?_)
          obtain ⟨b, rfl, hb5, hm5⟩ := hq
          rw [hm5]
          repeat refine AW.u 17 rfl rfl ?_
          try dsimp only [List.set_cons_zero, List.set_cons_succ, Option.toList_some, Option.toList_none, List.cons_append, List.nil_append]
          rw [nI_1]
          refine ih2 b m4 hlw ⟨hf4, fun e v hv => ?_, fun e q => ?_⟩
          · by_cases e2 : v = w
            · subst e2; exact hb5.mp e
            · exact hbt v (by omega)
          · subst e
            exact absurd (hb5.mpr (q w hlw)) (by decide)
    · have : w = σ 0 1 := by
        have : ¬ w < σ 0 1 := fun q => hc ((nI_ltI (by omega) (by omega)).mpr q)
        omega
      subst this
      cases bb with
      | true => exact fin true _ m2 ⟨fun _ => hbt rfl, fun _ => rfl⟩ hf2
      | false => exact fin false _ m2 ⟨fun q => (by cases q), fun q => absurd q (hbf rfl)⟩ hf2
  · have : i = σ 0 2 := by
      have : ¬ i < σ 0 2 := fun q => hc ((nI_ltI (by omega) (by omega)).mpr q)
      omega
    subst this
    repeat refine AW.s rfl ?_
    try dsimp only [List.set_cons_zero, List.set_cons_succ, Option.toList_some, Option.toList_none, List.cons_append, List.nil_append]
    exact AW.ri rfl rfl rfl ⟨_, rfl, hb, hf⟩
end
