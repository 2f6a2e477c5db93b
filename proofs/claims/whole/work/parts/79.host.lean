-- ===== image, back, count, sheet, cell, copy, rules =====
def imageF (Ω : OM) : Int32 × OM := (nI ((oG Ω) 0 1), uX Ω (oG Ω))
theorem C_image {l : Launch} {X : XT} {d : Nat} {m : Mem} {Ω : OM} (hd : 5 ≤ d) (hW : WO Ω) (hI : InvC m Ω) : Meth l X d M_X10_image [vR 11 0] m (fun r m' => r = some (vI (imageF Ω).1) ∧ InvC m' (imageF Ω).2 ∧ KC m m') := by
  obtain ⟨d, rfl⟩ : ∃ e, d = e + 1 := ⟨d - 1, by omega⟩
  refine E_X10_image (ls := [vR 11 0]) rfl rfl ?_
  repeat refine AW.s rfl ?_
  try dsimp only [List.set_cons_zero, List.set_cons_succ, Option.toList_some, Option.toList_none, List.cons_append, List.nil_append]
  refine AW.V k_10_285 ((c_become (S := 18) (S' := 1) (by omega) hI.1 hW.1 (by omega))) rfl rfl rfl rfl rfl rfl (fun r1 m9 hq => ?_)
  obtain ⟨rfl, p1, p2⟩ := hq
  repeat refine AW.s rfl ?_
  try dsimp only [List.set_cons_zero, List.set_cons_succ, Option.toList_some, Option.toList_none, List.cons_append, List.nil_append]
  refine AW.c rfl (Or.inr rfl) ?_
  try dsimp only [List.set_cons_zero, List.set_cons_succ, Option.toList_some, Option.toList_none, List.cons_append, List.nil_append]
  repeat refine AW.s rfl ?_
  try dsimp only [List.set_cons_zero, List.set_cons_succ, Option.toList_some, Option.toList_none, List.cons_append, List.nil_append]
  rw [show mUp m9 0 2 1 (0 + 18) 4 = nI ((oG Ω) 0 1) by rw [mUp_a (by decide)]; exact p1.2.1]
  have hf : ∀ a, a ≠ 0 → (a < 18 ∨ 18 + 16 < a) → mUp m9 0 2 1 a = m a := fun a h0 h1 => by rw [mUp_a h0, p2 a h1]
  refine AW.ri rfl rfl rfl ⟨rfl, ?_, fun a ha => hf a (by omega) (by omega)⟩
  obtain ⟨i1, i2, i3, i4, i5, i6, i7, i8⟩ := hI
  obtain ⟨w1, w2, w3, w4, -⟩ := hW
  refine ⟨i1.fr w1.2.1 (fun a g1 g2 => hf a (by omega) (by omega)), mUp_s _ _ _ _, fun _ => p1.fr w1.2.1 (fun a g1 g2 => mUp_a (by omega)), ?_, fun t ht => ?_, by rw [hf 36 (by omega) (by omega)]; exact i6, fun k hk => by rw [hf 37 (by omega) (by omega)]; exact i7 k hk, fun i hi => ?_⟩
  · rw [mUp_n (Or.inr (by decide)), p2 0 (by omega)]; exact i4
  · have ht : t < oQ Ω := ht
    obtain ⟨en, g1, g2⟩ := i5 t ht
    refine ⟨en, g1.fr (hf _ (by omega) (by omega)) (hf _ (by omega) (by omega)) (hf _ (by omega) (by omega)) (hf _ (by omega) (by omega)), fun p hp F => ?_⟩
    have hz : tellV (mUp m9 0 2 1) (199 + 6 * t) en p F = tellV m (199 + 6 * t) en p F := by
      unfold tellV
      rw [tval_eq g1 hp (hf _ (by omega) (by omega)) (hf _ (by omega) (by omega)) (hf _ (by omega) (by omega)) (fun _ _ => rfl)]
    rw [hz]
    exact g2 p hp F
  · rw [hf (235 + 2 * i) (by omega) (by omega), hf (235 + 2 * i + 1) (by omega) (by omega)]
    exact i8 i hi
def backF (Ω : OM) : Int32 × OM := if oK Ω = true then (nI ((oX Ω) 0 1), uG Ω (oX Ω)) else (-3, Ω)
theorem C_back {l : Launch} {X : XT} {d : Nat} {m : Mem} {Ω : OM} (hd : 5 ≤ d) (hW : WO Ω) (hI : InvC m Ω) : Meth l X d M_X10_back [vR 11 0] m (fun r m' => r = some (vI (backF Ω).1) ∧ InvC m' (backF Ω).2 ∧ KC m m') := by
  obtain ⟨d, rfl⟩ : ∃ e, d = e + 1 := ⟨d - 1, by omega⟩
  refine E_X10_back (ls := [vR 11 0]) rfl rfl ?_
  repeat refine AW.s rfl ?_
  try dsimp only [List.set_cons_zero, List.set_cons_succ, Option.toList_some, Option.toList_none, List.cons_append, List.nil_append]
  rw [hI.2.1]
  by_cases q : oK Ω = true
  · have e0 : backF Ω = (nI ((oX Ω) 0 1), uG Ω (oX Ω)) := if_pos q
    rw [if_pos q, e0]
    refine AW.b rfl (fun hc => ?_) (fun hc => ?_)
    · exact absurd hc (by decide)
    · repeat refine AW.s rfl ?_
      try dsimp only [List.set_cons_zero, List.set_cons_succ, Option.toList_some, Option.toList_none, List.cons_append, List.nil_append]
      refine AW.V k_10_285 ((c_become (S := 1) (S' := 18) (by omega) (hI.2.2.1 q) (hW.2.1 q).1 (by omega))) rfl rfl rfl rfl rfl rfl (fun r1 m9 hq => ?_)
      obtain ⟨rfl, p1, p2⟩ := hq
      repeat refine AW.s rfl ?_
      try dsimp only [List.set_cons_zero, List.set_cons_succ, Option.toList_some, Option.toList_none, List.cons_append, List.nil_append]
      rw [show m9 (0 + 1) 4 = nI ((oX Ω) 0 1) from p1.2.1]
      exact AW.ri rfl rfl rfl ⟨rfl, hI.g hW p1 (fun a ha => p2 a (by omega)), fun a ha => p2 a (by omega)⟩
  · have e0 : backF Ω = (-3, Ω) := if_neg q
    rw [if_neg q, e0]
    refine AW.b rfl (fun hc => ?_) (fun hc => ?_)
    · repeat refine AW.s rfl ?_
      try dsimp only [List.set_cons_zero, List.set_cons_succ, Option.toList_some, Option.toList_none, List.cons_append, List.nil_append]
      exact AW.ri rfl rfl rfl ⟨rfl, hI, KC.rf⟩
    · exact absurd rfl hc
def countF (Ω : OM) (b : Int32) : Int32 := if b = 0 then nI ((oG Ω) 0 1) else if b = 1 then nI ((oG Ω) 0 2) else if b = 2 then nI ((oG Ω) 0 3) else if b = 3 then nI (oQ Ω) else if b = 4 then nI (oN Ω) else if b = 5 then nI ((oG Ω) 0 4) else -2
theorem C_count {l : Launch} {X : XT} {d : Nat} {b : Int32} {m : Mem} {Ω : OM} (hI : InvC m Ω) : Meth l X d M_X10_count [vR 11 0, vI b] m (fun r m' => r = some (vI (countF Ω b)) ∧ m' = m) := by
  refine E_X10_count (ls := [vR 11 0, vI b]) rfl rfl ?_
  repeat refine AW.s rfl ?_
  try dsimp only [List.set_cons_zero, List.set_cons_succ, Option.toList_some, Option.toList_none, List.cons_append, List.nil_append]
  by_cases b0 : b = nI 0
  · subst b0
    refine AW.tin (tgt := 40) rfl (by decide) (by decide) rfl (by decide) ?_
    repeat refine AW.s rfl ?_
    try dsimp only [List.set_cons_zero, List.set_cons_succ, Option.toList_some, Option.toList_none, List.cons_append, List.nil_append]
    rw [show m (0 + 1) 4 = nI ((oG Ω) 0 1) from hI.1.2.1]
    exact AW.ri rfl rfl rfl ⟨rfl, rfl⟩
  · by_cases b1 : b = nI 1
    · subst b1
      refine AW.tin (tgt := 48) rfl (by decide) (by decide) rfl (by decide) ?_
      repeat refine AW.s rfl ?_
      try dsimp only [List.set_cons_zero, List.set_cons_succ, Option.toList_some, Option.toList_none, List.cons_append, List.nil_append]
      rw [show m (0 + 1) 8 = nI ((oG Ω) 0 2) from hI.1.2.2.1]
      exact AW.ri rfl rfl rfl ⟨rfl, rfl⟩
    · by_cases b2 : b = nI 2
      · subst b2
        refine AW.tin (tgt := 56) rfl (by decide) (by decide) rfl (by decide) ?_
        repeat refine AW.s rfl ?_
        try dsimp only [List.set_cons_zero, List.set_cons_succ, Option.toList_some, Option.toList_none, List.cons_append, List.nil_append]
        rw [show m (0 + 1 + 15) 1 = nI ((oG Ω) 0 3) from hI.1.2.2.2.2.2.2.1]
        exact AW.ri rfl rfl rfl ⟨rfl, rfl⟩
      · by_cases b3 : b = nI 3
        · subst b3
          refine AW.tin (tgt := 67) rfl (by decide) (by decide) rfl (by decide) ?_
          repeat refine AW.s rfl ?_
          try dsimp only [List.set_cons_zero, List.set_cons_succ, Option.toList_some, Option.toList_none, List.cons_append, List.nil_append]
          rw [show m 0 4 = nI (oQ Ω) from hI.2.2.2.1]
          exact AW.ri rfl rfl rfl ⟨rfl, rfl⟩
        · by_cases b4 : b = nI 4
          · subst b4
            refine AW.tin (tgt := 72) rfl (by decide) (by decide) rfl (by decide) ?_
            repeat refine AW.s rfl ?_
            try dsimp only [List.set_cons_zero, List.set_cons_succ, Option.toList_some, Option.toList_none, List.cons_append, List.nil_append]
            rw [show m (0 + 36) 1 = nI (oN Ω) from hI.2.2.2.2.2.1]
            exact AW.ri rfl rfl rfl ⟨rfl, rfl⟩
          · by_cases b5 : b = nI 5
            · subst b5
              refine AW.tin (tgt := 80) rfl (by decide) (by decide) rfl (by decide) ?_
              repeat refine AW.s rfl ?_
              try dsimp only [List.set_cons_zero, List.set_cons_succ, Option.toList_some, Option.toList_none, List.cons_append, List.nil_append]
              rw [show m (0 + 1) 10 = nI ((oG Ω) 0 4) from hI.1.2.2.2.1]
              exact AW.ri rfl rfl rfl ⟨rfl, rfl⟩
            · have hall : ∀ p, p ≤ 5 → ¬ b = nI p := by
                intro p hp
                rcases (show p = 0 ∨ p = 1 ∨ p = 2 ∨ p = 3 ∨ p = 4 ∨ p = 5 by omega) with e | e | e | e | e | e <;> subst e <;> assumption
              refine AW.tout (tgt := 88) rfl (tsw (n := 5) (by decide) hall) (by decide) ?_
              repeat refine AW.s rfl ?_
              try dsimp only [List.set_cons_zero, List.set_cons_succ, Option.toList_some, Option.toList_none, List.cons_append, List.nil_append]
              exact AW.ri rfl rfl rfl ⟨by unfold countF; rw [if_neg (show ¬ b = 0 from b0), if_neg (show ¬ b = 1 from b1), if_neg (show ¬ b = 2 from b2), if_neg (show ¬ b = 3 from b3), if_neg (show ¬ b = 4 from b4), if_neg (show ¬ b = 5 from b5)], rfl⟩
noncomputable def sheetF (Ω : OM) (a s n : Int32) : Int32 × OM :=
  cif (wB a 3 = 1 ∧ ¬ s < -1 ∧ ¬ 2 < s) (cif (s = -1) (1, uS Ω a.toNatClampNeg (-1) 0 (fun _ => 0)) (cif (40 < n) (-2, Ω) (cif (n < 0) (-14, Ω) (1, uS Ω a.toNatClampNeg s n.toNatClampNeg (fun _ => 0))))) (-2, Ω)
theorem InvC.s' {m m' : Mem} {Ω : OM} {i : Nat} {s : Int32} {n : Nat} {f : Nat → Int32} (h : InvC m Ω) (hW : WO Ω) (hi : i < 4) (h1 : m' (235 + 2 * i) 1 = s) (h2 : m' (235 + 2 * i) 2 = nI n) (h3 : ∀ k, k < n → m' (235 + 2 * i + 1) k = f k) (hf : ∀ a, a ≠ 235 + 2 * i → a ≠ 235 + 2 * i + 1 → m' a = m a) : InvC m' (uS Ω i s n f) := by
  refine h.s hW hi h1 h2 h3 (fun q _ => ?_)
  by_cases e : q = 235 + 2 * i ∨ q = 235 + 2 * i + 1
  · simp only [e, if_true]
  · simp only [e, if_false]
    exact hf q (fun z => e (Or.inl z)) (fun z => e (Or.inr z))
theorem C_sheet {l : Launch} {X : XT} {d : Nat} {a s n : Int32} {m : Mem} {Ω : OM} (hd : 5 ≤ d) (hW : WO Ω) (hI : InvC m Ω) : Meth l X d M_X10_sheet [vR 11 0, vI a, vI s, vI n] m (fun r m' => r = some (vI (sheetF Ω a s n).1) ∧ InvC m' (sheetF Ω a s n).2 ∧ KC m m') := by
  obtain ⟨d, rfl⟩ : ∃ e, d = e + 1 := ⟨d - 1, by omega⟩
  have hbad : ¬ (wB a 3 = 1 ∧ ¬ s < -1 ∧ ¬ 2 < s) → AW (GM l X (d + 1) M_X10_sheet (fun r m' => r = some (vI (sheetF Ω a s n).1) ∧ InvC m' (sheetF Ω a s n).2 ∧ KC m m')) 17 [vR 11 0, vI a, vI s, vI n] [] m := by
    intro hn
    have e0 : sheetF Ω a s n = (-2, Ω) := by unfold sheetF; rw [cif_f hn]
    rw [e0]
    repeat refine AW.s rfl ?_
    try dsimp only [List.set_cons_zero, List.set_cons_succ, Option.toList_some, Option.toList_none, List.cons_append, List.nil_append]
    exact AW.ri rfl rfl rfl ⟨rfl, hI, KC.rf⟩
  refine E_X10_sheet (ls := [vR 11 0, vI a, vI s, vI n]) rfl rfl ?_
  repeat refine AW.s rfl ?_
  try dsimp only [List.set_cons_zero, List.set_cons_succ, Option.toList_some, Option.toList_none, List.cons_append, List.nil_append]
  refine AW.S k_10_109 ((c_isSheet (by omega))) rfl rfl rfl rfl (fun r1 m9 hq => ?_)
  obtain ⟨rfl, hm9⟩ := hq
  rw [hm9]
  try dsimp only [List.set_cons_zero, List.set_cons_succ, Option.toList_some, Option.toList_none, List.cons_append, List.nil_append]
  by_cases q1 : wB a 3 = 1
  · rw [q1]
    refine AW.b rfl (fun hc => ?_) (fun hc => ?_)
    · exact absurd hc (by decide)
    · repeat refine AW.s rfl ?_
      try dsimp only [List.set_cons_zero, List.set_cons_succ, Option.toList_some, Option.toList_none, List.cons_append, List.nil_append]
      refine AW.b rfl (fun hc => ?_) (fun hc => ?_)
      · have q2 := hc
        exact hbad (fun q => q.2.1 q2)
      · have q2 := hc
        repeat refine AW.s rfl ?_
        try dsimp only [List.set_cons_zero, List.set_cons_succ, Option.toList_some, Option.toList_none, List.cons_append, List.nil_append]
        refine AW.b rfl (fun hc => ?_) (fun hc => ?_)
        · have q3 := hc
          exact hbad (fun q => q.2.2 q3)
        · have q3 := hc
          obtain ⟨i, hi, rfl⟩ := (wB_1 (n := 3) (by decide)).mp q1
          have e0 : sheetF Ω (nI i) s n = cif (s = -1) (1, uS Ω i (-1) 0 (fun _ => 0)) (cif (40 < n) (-2, Ω) (cif (n < 0) (-14, Ω) (1, uS Ω i s n.toNatClampNeg (fun _ => 0)))) := by
            unfold sheetF
            rw [cif_t ⟨q1, q2, q3⟩, nI_clamp (by omega)]
          rw [e0]
          have eh : 0 + 42 + 193 + 2 * i = 235 + 2 * i := by omega
          repeat refine AW.s rfl ?_
          try dsimp only [List.set_cons_zero, List.set_cons_succ, Option.toList_some, Option.toList_none, List.cons_append, List.nil_append]
          refine AW.b rfl (fun hc => ?_) (fun hc => ?_)
          · have q4 := hc
            rw [cif_t q4]
            repeat refine AW.s rfl ?_
            try dsimp only [List.set_cons_zero, List.set_cons_succ, Option.toList_some, Option.toList_none, List.cons_append, List.nil_append]
            refine AW.c rfl (vp_in_nI (by omega) (by decide)) ?_
            try dsimp only [List.set_cons_zero, List.set_cons_succ, Option.toList_some, Option.toList_none, List.cons_append, List.nil_append]
            rw [nI_clamp (by omega), eh]
            repeat refine AW.s rfl ?_
            try dsimp only [List.set_cons_zero, List.set_cons_succ, Option.toList_some, Option.toList_none, List.cons_append, List.nil_append]
            refine AW.V k_10_293 (c_Sbecome) rfl rfl rfl rfl rfl rfl (fun r1 m8 hq => ?_)
            obtain ⟨rfl, g1, g2, g3, g4⟩ := hq
            repeat refine AW.s rfl ?_
            try dsimp only [List.set_cons_zero, List.set_cons_succ, Option.toList_some, Option.toList_none, List.cons_append, List.nil_append]
            exact AW.ri rfl rfl rfl ⟨rfl, hI.s' hW (by omega) g1 g2 (fun k hk => absurd hk (by omega)) g4, fun q hq => g4 q (by omega) (by omega)⟩
          · have q4 := hc
            rw [cif_f q4]
            repeat refine AW.s rfl ?_
            try dsimp only [List.set_cons_zero, List.set_cons_succ, Option.toList_some, Option.toList_none, List.cons_append, List.nil_append]
            refine AW.b rfl (fun hc => ?_) (fun hc => ?_)
            · have q5 := hc
              rw [cif_t q5]
              repeat refine AW.s rfl ?_
              try dsimp only [List.set_cons_zero, List.set_cons_succ, Option.toList_some, Option.toList_none, List.cons_append, List.nil_append]
              exact AW.ri rfl rfl rfl ⟨rfl, hI, KC.rf⟩
            · have q5 := hc
              rw [cif_f q5]
              repeat refine AW.s rfl ?_
              try dsimp only [List.set_cons_zero, List.set_cons_succ, Option.toList_some, Option.toList_none, List.cons_append, List.nil_append]
              refine AW.b rfl (fun hc => ?_) (fun hc => ?_)
              · have q6 := hc
                rw [cif_t q6]
                repeat refine AW.s rfl ?_
                try dsimp only [List.set_cons_zero, List.set_cons_succ, Option.toList_some, Option.toList_none, List.cons_append, List.nil_append]
                exact AW.ri rfl rfl rfl ⟨rfl, hI, KC.rf⟩
              · have q6 := hc
                rw [cif_f q6]
                obtain ⟨j, hj, rfl⟩ := nI_of q6
                have hj40 : j ≤ 40 := by
                  have : ¬ 40 < j := fun q => q5 (nI_lt (a := 40) q hj)
                  omega
                repeat refine AW.s rfl ?_
                try dsimp only [List.set_cons_zero, List.set_cons_succ, Option.toList_some, Option.toList_none, List.cons_append, List.nil_append]
                refine AW.c rfl (vp_in_nI (by omega) (by decide)) ?_
                try dsimp only [List.set_cons_zero, List.set_cons_succ, Option.toList_some, Option.toList_none, List.cons_append, List.nil_append]
                rw [nI_clamp (by omega), nI_clamp (by omega), eh]
                repeat refine AW.s rfl ?_
                try dsimp only [List.set_cons_zero, List.set_cons_succ, Option.toList_some, Option.toList_none, List.cons_append, List.nil_append]
                refine AW.V k_10_293 (c_Sbecome) rfl rfl rfl rfl rfl rfl (fun r1 m8 hq => ?_)
                obtain ⟨rfl, g1, g2, g3, g4⟩ := hq
                repeat refine AW.s rfl ?_
                try dsimp only [List.set_cons_zero, List.set_cons_succ, Option.toList_some, Option.toList_none, List.cons_append, List.nil_append]
                exact AW.ri rfl rfl rfl ⟨rfl, hI.s' hW (by omega) g1 g2 (fun k hk => g3 k (by omega)) g4, fun q hq => g4 q (by omega) (by omega)⟩
  · rw [wB_0 q1]
    refine AW.b rfl (fun hc => ?_) (fun hc => ?_)
    · exact hbad (fun q => q1 q.1)
    · exact absurd rfl hc
noncomputable def cellF (Ω : OM) (a i v : Int32) : Int32 × OM :=
  cif (wB a 3 = 1) (cif (oS Ω a.toNatClampNeg = -1) (-11, Ω) (cif (hB i (oZ Ω a.toNatClampNeg) = 1) (1, uS Ω a.toNatClampNeg (oS Ω a.toNatClampNeg) (oZ Ω a.toNatClampNeg) (upd (oI Ω a.toNatClampNeg) i.toNatClampNeg (putV (oS Ω a.toNatClampNeg).toNatClampNeg v))) (-12, Ω))) (-2, Ω)
theorem C_cell {l : Launch} {X : XT} {d : Nat} {a i v : Int32} {m : Mem} {Ω : OM} (hd : 5 ≤ d) (hW : WO Ω) (hI : InvC m Ω) : Meth l X d M_X10_cell [vR 11 0, vI a, vI i, vI v] m (fun r m' => r = some (vI (cellF Ω a i v).1) ∧ InvC m' (cellF Ω a i v).2 ∧ KC m m') := by
  obtain ⟨d, rfl⟩ : ∃ e, d = e + 1 := ⟨d - 1, by omega⟩
  refine E_X10_cell (ls := [vR 11 0, vI a, vI i, vI v, vU]) rfl rfl ?_
  repeat refine AW.s rfl ?_
  try dsimp only [List.set_cons_zero, List.set_cons_succ, Option.toList_some, Option.toList_none, List.cons_append, List.nil_append]
  refine AW.S k_10_109 ((c_isSheet (by omega))) rfl rfl rfl rfl (fun r1 m9 hq => ?_)
  obtain ⟨rfl, hm9⟩ := hq
  rw [hm9]
  try dsimp only [List.set_cons_zero, List.set_cons_succ, Option.toList_some, Option.toList_none, List.cons_append, List.nil_append]
  by_cases q1 : wB a 3 = 1
  · rw [q1]
    obtain ⟨j, hj, rfl⟩ := (wB_1 (n := 3) (by decide)).mp q1
    have e0 : cellF Ω (nI j) i v = cif (oS Ω j = -1) (-11, Ω) (cif (hB i (oZ Ω j) = 1) (1, uS Ω j (oS Ω j) (oZ Ω j) (upd (oI Ω j) i.toNatClampNeg (putV (oS Ω j).toNatClampNeg v))) (-12, Ω)) := by
      unfold cellF
      rw [cif_t q1, nI_clamp (by omega)]
    have eh : 0 + 42 + 193 + 2 * j = 235 + 2 * j := by omega
    obtain ⟨s1, s2, s3⟩ := hI.2.2.2.2.2.2.2 j (by omega)
    have hz := (hW.2.2.2.2.2.2 j (by omega)).le
    refine AW.b rfl (fun hc => ?_) (fun hc => ?_)
    · exact absurd hc (by decide)
    · repeat refine AW.s rfl ?_
      try dsimp only [List.set_cons_zero, List.set_cons_succ, Option.toList_some, Option.toList_none, List.cons_append, List.nil_append]
      refine AW.c rfl (vp_in_nI (by omega) (by decide)) ?_
      try dsimp only [List.set_cons_zero, List.set_cons_succ, Option.toList_some, Option.toList_none, List.cons_append, List.nil_append]
      rw [nI_clamp (by omega), eh]
      repeat refine AW.s rfl ?_
      try dsimp only [List.set_cons_zero, List.set_cons_succ, Option.toList_some, Option.toList_none, List.cons_append, List.nil_append]
      refine AW.V k_10_117 (c_isMissing) rfl rfl rfl rfl rfl rfl (fun r1 m7 hq => ?_)
      obtain ⟨rfl, hm7⟩ := hq
      rw [hm7, s1]
      try dsimp only [List.set_cons_zero, List.set_cons_succ, Option.toList_some, Option.toList_none, List.cons_append, List.nil_append]
      by_cases q3 : oS Ω j = -1
      · rw [cif_t q3] at e0
        rw [if_pos q3, e0]
        refine AW.b rfl (fun hc => ?_) (fun hc => ?_)
        · exact absurd hc (by decide)
        · repeat refine AW.s rfl ?_
          try dsimp only [List.set_cons_zero, List.set_cons_succ, Option.toList_some, Option.toList_none, List.cons_append, List.nil_append]
          exact AW.ri rfl rfl rfl ⟨rfl, hI, KC.rf⟩
      · rw [cif_f q3] at e0
        rw [if_neg q3]
        obtain ⟨s, hs3, hs⟩ := (hW.2.2.2.2.2.2 j (by omega)).sort q3
        have hbad : ¬ hB i (oZ Ω j) = 1 → AW (GM l X (d + 1) M_X10_cell (fun r m' => r = some (vI (cellF Ω (nI j) i v).1) ∧ InvC m' (cellF Ω (nI j) i v).2 ∧ KC m m')) 42 [vR 11 0, vI (nI j), vI i, vI v, vR 7 (235 + 2 * j)] [] m := by
          intro hn
          rw [cif_f hn] at e0
          rw [e0]
          repeat refine AW.s rfl ?_
          try dsimp only [List.set_cons_zero, List.set_cons_succ, Option.toList_some, Option.toList_none, List.cons_append, List.nil_append]
          exact AW.ri rfl rfl rfl ⟨rfl, hI, KC.rf⟩
        refine AW.b rfl (fun hc => ?_) (fun hc => ?_)
        · repeat refine AW.s rfl ?_
          try dsimp only [List.set_cons_zero, List.set_cons_succ, Option.toList_some, Option.toList_none, List.cons_append, List.nil_append]
          refine AW.b rfl (fun hc => ?_) (fun hc => ?_)
          · have q4 := hc
            exact hbad (fun q => by unfold hB at q; rw [if_pos q4] at q; exact absurd q (by decide))
          · have q4 := hc
            repeat refine AW.s rfl ?_
            try dsimp only [List.set_cons_zero, List.set_cons_succ, Option.toList_some, Option.toList_none, List.cons_append, List.nil_append]
            rw [s2]
            refine AW.b rfl (fun hc => ?_) (fun hc => ?_)
            · have q5 := hc
              have q6 : hB i (oZ Ω j) = 1 := by unfold hB; rw [if_neg q4, if_pos q5]
              obtain ⟨k, hk, rfl⟩ := (hB_1 (by omega)).mp q6
              rw [cif_t q6, nI_clamp (by omega)] at e0
              rw [e0]
              repeat refine AW.s rfl ?_
              try dsimp only [List.set_cons_zero, List.set_cons_succ, Option.toList_some, Option.toList_none, List.cons_append, List.nil_append]
              refine AW.V k_10_296 ((c_put (h := 235 + 2 * j) (s := s) (i := k) (by rw [s1, hs]) hs3 (by omega))) rfl rfl rfl rfl rfl rfl (fun r1 m6 hq => ?_)
              obtain ⟨rfl, hm6⟩ := hq
              rw [hm6]
              repeat refine AW.s rfl ?_
              try dsimp only [List.set_cons_zero, List.set_cons_succ, Option.toList_some, Option.toList_none, List.cons_append, List.nil_append]
              refine AW.ri rfl rfl rfl ⟨rfl, hI.s' hW (by omega) ?_ ?_ (fun q hq => ?_) (fun q h1 h2 => mUp_a h2), fun q hq => mUp_a (by omega)⟩
              · rw [mUp_a (by omega)]; exact s1
              · rw [mUp_a (by omega)]; exact s2
              · rw [hs, nI_clamp (by omega)]
                by_cases e : q = k
                · subst e; rw [mUp_s]; simp [upd]
                · rw [mUp_n (Or.inr e), s3 q hq]; simp [upd, e]
            · have q5 := hc
              exact hbad (fun q => by unfold hB at q; rw [if_neg q4, if_neg q5] at q; exact absurd q (by decide))
        · exact absurd rfl hc
  · have e0 : cellF Ω a i v = (-2, Ω) := by unfold cellF; rw [cif_f q1]
    rw [wB_0 q1, e0]
    refine AW.b rfl (fun hc => ?_) (fun hc => ?_)
    · repeat refine AW.s rfl ?_
      try dsimp only [List.set_cons_zero, List.set_cons_succ, Option.toList_some, Option.toList_none, List.cons_append, List.nil_append]
      exact AW.ri rfl rfl rfl ⟨rfl, hI, KC.rf⟩
    · exact absurd rfl hc
def hoB (z : Nat) (x n : Int32) : Int32 := if x < 0 then 0 else if n < 0 then 0 else if nI z < x then 0 else if nI z - x < n then 0 else 1
theorem hoB_1 {z : Nat} {x n : Int32} (hz : z < 2 ^ 31) : hoB z x n = 1 ↔ ∃ f c, x = nI f ∧ n = nI c ∧ f + c ≤ z := by
  unfold hoB
  by_cases h0 : x < 0
  · rw [if_pos h0]
    exact ⟨fun h => absurd h (by decide), fun ⟨f, c, e1, _, hz2⟩ => by rw [e1] at h0; exact absurd h0 (nI_pos (by omega))⟩
  · rw [if_neg h0]
    by_cases h1 : n < 0
    · rw [if_pos h1]
      exact ⟨fun h => absurd h (by decide), fun ⟨f, c, _, e2, hz2⟩ => by rw [e2] at h1; exact absurd h1 (nI_pos (by omega))⟩
    · rw [if_neg h1]
      obtain ⟨f, hf, rfl⟩ := nI_of h0
      obtain ⟨c, hc, rfl⟩ := nI_of h1
      by_cases h2 : nI z < nI f
      · rw [if_pos h2]
        refine ⟨fun h => absurd h (by decide), fun ⟨f', c', e1, e2, hz2⟩ => ?_⟩
        have := (nI_eq hf (by omega)).mp e1
        have := (nI_ltI hz hf).mp h2
        omega
      · rw [if_neg h2]
        have h2' : f ≤ z := by
          have : ¬ z < f := fun q => h2 (nI_lt q hf)
          omega
        rw [show nI z - nI f = nI (z - f) from pk_sub h2']
        by_cases h3 : nI (z - f) < nI c
        · rw [if_pos h3]
          refine ⟨fun h => absurd h (by decide), fun ⟨f', c', e1, e2, hz2⟩ => ?_⟩
          have := (nI_eq hf (by omega)).mp e1
          have := (nI_eq hc (by omega)).mp e2
          have := (nI_ltI (by omega) hc).mp h3
          omega
        · rw [if_neg h3]
          have : ¬ z - f < c := fun q => h3 (nI_lt q hc)
          exact ⟨fun _ => ⟨f, c, rfl, rfl, by omega⟩, fun _ => rfl⟩
theorem hoB_0 {z : Nat} {x n : Int32} (h : ¬ hoB z x n = 1) : hoB z x n = 0 := by
  unfold hoB at h ⊢
  split
  · rfl
  · split
    · rfl
    · split
      · rfl
      · split
        · rfl
        · rename_i h1 h2 h3 h4
          rw [if_neg h1, if_neg h2, if_neg h3, if_neg h4] at h
          exact absurd rfl h
theorem c_holds {l : Launch} {X : XT} {d : Nat} {h z : Nat} {i n : Int32} {m : Mem} (hz : m h 2 = nI z) : Meth l X d M_X6_holds [vR 7 h, vI i, vI n] m (fun r m' => r = some (vI (hoB z i n)) ∧ m' = m) := by
  refine c_Shold.post (fun r m' hq => ?_)
  rw [hz] at hq
  exact hq
noncomputable def copyF (Ω : OM) (a i b j n : Int32) : Int32 × OM :=
  cif (wB a 3 = 1 ∧ wB b 3 = 1) (cif (oS Ω a.toNatClampNeg = -1 ∨ oS Ω b.toNatClampNeg = -1) (-11, Ω) (cif (oS Ω a.toNatClampNeg = oS Ω b.toNatClampNeg) (cif (hoB (oZ Ω a.toNatClampNeg) i n = 1 ∧ hoB (oZ Ω b.toNatClampNeg) j n = 1) (n, uS Ω b.toNatClampNeg (oS Ω b.toNatClampNeg) (oZ Ω b.toNatClampNeg) (va_cpy (oI Ω a.toNatClampNeg) (oI Ω b.toNatClampNeg) i.toNatClampNeg j.toNatClampNeg n.toNatClampNeg)) (-12, Ω)) (-13, Ω))) (-2, Ω)
theorem C_copy {l : Launch} {X : XT} {d : Nat} {a i b j n : Int32} {m : Mem} {Ω : OM} (hd : 5 ≤ d) (hW : WO Ω) (hI : InvC m Ω) : Meth l X d M_X10_copy [vR 11 0, vI a, vI i, vI b, vI j, vI n] m (fun r m' => r = some (vI (copyF Ω a i b j n).1) ∧ InvC m' (copyF Ω a i b j n).2 ∧ KC m m') := by
  obtain ⟨d, rfl⟩ : ∃ e, d = e + 1 := ⟨d - 1, by omega⟩
  refine E_X10_copy (ls := [vR 11 0, vI a, vI i, vI b, vI j, vI n, vU, vU]) rfl rfl ?_
  repeat refine AW.s rfl ?_
  try dsimp only [List.set_cons_zero, List.set_cons_succ, Option.toList_some, Option.toList_none, List.cons_append, List.nil_append]
  refine AW.S k_10_109 ((c_isSheet (by omega))) rfl rfl rfl rfl (fun r1 m9 hq => ?_)
  obtain ⟨rfl, hm9⟩ := hq
  rw [hm9]
  try dsimp only [List.set_cons_zero, List.set_cons_succ, Option.toList_some, Option.toList_none, List.cons_append, List.nil_append]
  by_cases q1 : wB a 3 = 1
  · rw [q1]
    refine AW.b rfl (fun hc => ?_) (fun hc => ?_)
    · exact absurd hc (by decide)
    · repeat refine AW.s rfl ?_
      try dsimp only [List.set_cons_zero, List.set_cons_succ, Option.toList_some, Option.toList_none, List.cons_append, List.nil_append]
      refine AW.S k_10_109 ((c_isSheet (by omega))) rfl rfl rfl rfl (fun r1 m8 hq => ?_)
      obtain ⟨rfl, hm8⟩ := hq
      rw [hm8]
      try dsimp only [List.set_cons_zero, List.set_cons_succ, Option.toList_some, Option.toList_none, List.cons_append, List.nil_append]
      by_cases q2 : wB b 3 = 1
      · rw [q2]
        obtain ⟨p, hp, rfl⟩ := (wB_1 (n := 3) (by decide)).mp q1
        obtain ⟨q, hq3, rfl⟩ := (wB_1 (n := 3) (by decide)).mp q2
        have e0 : copyF Ω (nI p) i (nI q) j n = cif (oS Ω p = -1 ∨ oS Ω q = -1) (-11, Ω) (cif (oS Ω p = oS Ω q) (cif (hoB (oZ Ω p) i n = 1 ∧ hoB (oZ Ω q) j n = 1) (n, uS Ω q (oS Ω q) (oZ Ω q) (va_cpy (oI Ω p) (oI Ω q) i.toNatClampNeg j.toNatClampNeg n.toNatClampNeg)) (-12, Ω)) (-13, Ω)) := by
          unfold copyF
          rw [cif_t ⟨q1, q2⟩, nI_clamp (by omega), nI_clamp (by omega)]
        have eh : 0 + 42 + 193 + 2 * p = 235 + 2 * p := by omega
        have eh2 : 0 + 42 + 193 + 2 * q = 235 + 2 * q := by omega
        obtain ⟨s1, s2, s3⟩ := hI.2.2.2.2.2.2.2 p (by omega)
        obtain ⟨t1, t2, t3⟩ := hI.2.2.2.2.2.2.2 q (by omega)
        have hz := (hW.2.2.2.2.2.2 p (by omega)).le
        have hz2 := (hW.2.2.2.2.2.2 q (by omega)).le
        refine AW.b rfl (fun hc => ?_) (fun hc => ?_)
        · exact absurd hc (by decide)
        · repeat refine AW.s rfl ?_
          try dsimp only [List.set_cons_zero, List.set_cons_succ, Option.toList_some, Option.toList_none, List.cons_append, List.nil_append]
          refine AW.c rfl (vp_in_nI (by omega) (by decide)) ?_
          try dsimp only [List.set_cons_zero, List.set_cons_succ, Option.toList_some, Option.toList_none, List.cons_append, List.nil_append]
          rw [nI_clamp (by omega), eh]
          repeat refine AW.s rfl ?_
          try dsimp only [List.set_cons_zero, List.set_cons_succ, Option.toList_some, Option.toList_none, List.cons_append, List.nil_append]
          refine AW.c rfl (vp_in_nI (by omega) (by decide)) ?_
          try dsimp only [List.set_cons_zero, List.set_cons_succ, Option.toList_some, Option.toList_none, List.cons_append, List.nil_append]
          rw [nI_clamp (by omega), eh2]
          repeat refine AW.s rfl ?_
          try dsimp only [List.set_cons_zero, List.set_cons_succ, Option.toList_some, Option.toList_none, List.cons_append, List.nil_append]
          refine AW.V k_10_117 (c_isMissing) rfl rfl rfl rfl rfl rfl (fun r1 m7 hq => ?_)
          obtain ⟨rfl, hm7⟩ := hq
          rw [hm7, s1]
          try dsimp only [List.set_cons_zero, List.set_cons_succ, Option.toList_some, Option.toList_none, List.cons_append, List.nil_append]
          by_cases q3 : oS Ω p = -1
          · rw [cif_t (Or.inl q3)] at e0
            rw [if_pos q3, e0]
            refine AW.b rfl (fun hc => ?_) (fun hc => ?_)
            · exact absurd hc (by decide)
            · repeat refine AW.s rfl ?_
              try dsimp only [List.set_cons_zero, List.set_cons_succ, Option.toList_some, Option.toList_none, List.cons_append, List.nil_append]
              exact AW.ri rfl rfl rfl ⟨rfl, hI, KC.rf⟩
          · rw [if_neg q3]
            refine AW.b rfl (fun hc => ?_) (fun hc => ?_)
            · repeat refine AW.s rfl ?_
              try dsimp only [List.set_cons_zero, List.set_cons_succ, Option.toList_some, Option.toList_none, List.cons_append, List.nil_append]
              refine AW.V k_10_117 (c_isMissing) rfl rfl rfl rfl rfl rfl (fun r1 m6 hq => ?_)
              obtain ⟨rfl, hm6⟩ := hq
              rw [hm6, t1]
              try dsimp only [List.set_cons_zero, List.set_cons_succ, Option.toList_some, Option.toList_none, List.cons_append, List.nil_append]
              by_cases q4 : oS Ω q = -1
              · rw [cif_t (Or.inr q4)] at e0
                rw [if_pos q4, e0]
                refine AW.b rfl (fun hc => ?_) (fun hc => ?_)
                · exact absurd hc (by decide)
                · repeat refine AW.s rfl ?_
                  try dsimp only [List.set_cons_zero, List.set_cons_succ, Option.toList_some, Option.toList_none, List.cons_append, List.nil_append]
                  exact AW.ri rfl rfl rfl ⟨rfl, hI, KC.rf⟩
              · rw [cif_f (fun z => z.elim q3 q4)] at e0
                rw [if_neg q4]
                refine AW.b rfl (fun hc => ?_) (fun hc => ?_)
                · repeat refine AW.s rfl ?_
                  try dsimp only [List.set_cons_zero, List.set_cons_succ, Option.toList_some, Option.toList_none, List.cons_append, List.nil_append]
                  rw [s1, t1]
                  refine AW.b rfl (fun hc => ?_) (fun hc => ?_)
                  · have q5 := hc
                    rw [cif_t q5] at e0
                    have hbad : ¬ (hoB (oZ Ω p) i n = 1 ∧ hoB (oZ Ω q) j n = 1) → AW (GM l X (d + 1) M_X10_copy (fun r m' => r = some (vI (copyF Ω (nI p) i (nI q) j n).1) ∧ InvC m' (copyF Ω (nI p) i (nI q) j n).2 ∧ KC m m')) 91 [vR 11 0, vI (nI p), vI i, vI (nI q), vI j, vI n, vR 7 (235 + 2 * p), vR 7 (235 + 2 * q)] [] m := by
                      intro hn
                      rw [cif_f hn] at e0
                      rw [e0]
                      repeat refine AW.s rfl ?_
                      try dsimp only [List.set_cons_zero, List.set_cons_succ, Option.toList_some, Option.toList_none, List.cons_append, List.nil_append]
                      exact AW.ri rfl rfl rfl ⟨rfl, hI, KC.rf⟩
                    repeat refine AW.s rfl ?_
                    try dsimp only [List.set_cons_zero, List.set_cons_succ, Option.toList_some, Option.toList_none, List.cons_append, List.nil_append]
                    refine AW.V k_10_301 ((c_holds s2)) rfl rfl rfl rfl rfl rfl (fun r1 m5 hq => ?_)
                    obtain ⟨rfl, hm5⟩ := hq
                    rw [hm5]
                    try dsimp only [List.set_cons_zero, List.set_cons_succ, Option.toList_some, Option.toList_none, List.cons_append, List.nil_append]
                    by_cases q6 : hoB (oZ Ω p) i n = 1
                    · rw [q6]
                      refine AW.b rfl (fun hc => ?_) (fun hc => ?_)
                      · exact absurd hc (by decide)
                      · repeat refine AW.s rfl ?_
                        try dsimp only [List.set_cons_zero, List.set_cons_succ, Option.toList_some, Option.toList_none, List.cons_append, List.nil_append]
                        refine AW.V k_10_301 ((c_holds t2)) rfl rfl rfl rfl rfl rfl (fun r1 m4 hq => ?_)
                        obtain ⟨rfl, hm4⟩ := hq
                        rw [hm4]
                        try dsimp only [List.set_cons_zero, List.set_cons_succ, Option.toList_some, Option.toList_none, List.cons_append, List.nil_append]
                        by_cases q7 : hoB (oZ Ω q) j n = 1
                        · rw [cif_t ⟨q6, q7⟩] at e0
                          rw [q7]
                          obtain ⟨f, c, rfl, rfl, hfc⟩ := (hoB_1 (by omega)).mp q6
                          obtain ⟨g, c', rfl, ec, hgc⟩ := (hoB_1 (by omega)).mp q7
                          have ecc : c = c' := (nI_eq (by omega) (by omega)).mp ec
                          subst ecc
                          rw [nI_clamp (by omega), nI_clamp (by omega), nI_clamp (by omega)] at e0
                          rw [e0]
                          refine AW.b rfl (fun hc => ?_) (fun hc => ?_)
                          · exact absurd hc (by decide)
                          · repeat refine AW.s rfl ?_
                            try dsimp only [List.set_cons_zero, List.set_cons_succ, Option.toList_some, Option.toList_none, List.cons_append, List.nil_append]
                            refine AW.cpy k_10_307 rfl rfl rfl rfl (nI_pos (by omega)) (nI_pos (by omega)) (nI_pos (by omega)) ?_ ?_ ?_
                            · rw [nI_clamp (by omega), nI_clamp (by omega)]; show f + c ≤ 40; omega
                            · rw [nI_clamp (by omega), nI_clamp (by omega)]; show g + c ≤ 40; omega
                            rw [nI_clamp (by omega), nI_clamp (by omega), nI_clamp (by omega)]
                            repeat refine AW.s rfl ?_
                            try dsimp only [List.set_cons_zero, List.set_cons_succ, Option.toList_some, Option.toList_none, List.cons_append, List.nil_append]
                            refine AW.ri rfl rfl rfl ⟨rfl, hI.s' hW (by omega) ?_ ?_ (fun k hk => ?_) (fun z h1 h2 => mSr_n h2), fun z hz => mSr_n (by omega)⟩
                            · rw [mSr_n (by omega)]; exact t1
                            · rw [mSr_n (by omega)]; exact t2
                            · rw [mSr_s]
                              by_cases e : g ≤ k ∧ k < g + c
                              · rw [pk_cpy_in e.1 e.2, pk_cpy_in e.1 e.2]
                                exact s3 _ (by omega)
                              · rw [pk_cpy_out (by omega), pk_cpy_out (by omega)]
                                exact t3 k hk
                        · rw [hoB_0 q7]
                          refine AW.b rfl (fun hc => ?_) (fun hc => ?_)
                          · exact hbad (fun z => q7 z.2)
                          · exact absurd rfl hc
                    · rw [hoB_0 q6]
                      refine AW.b rfl (fun hc => ?_) (fun hc => ?_)
                      · exact hbad (fun z => q6 z.1)
                      · exact absurd rfl hc
                  · have q5 := hc
                    rw [cif_f q5] at e0
                    rw [e0]
                    repeat refine AW.s rfl ?_
                    try dsimp only [List.set_cons_zero, List.set_cons_succ, Option.toList_some, Option.toList_none, List.cons_append, List.nil_append]
                    exact AW.ri rfl rfl rfl ⟨rfl, hI, KC.rf⟩
                · exact absurd rfl hc
            · exact absurd rfl hc
      · have e0 : copyF Ω a i b j n = (-2, Ω) := by unfold copyF; rw [cif_f (fun q => q2 q.2)]
        rw [wB_0 q2, e0]
        refine AW.b rfl (fun hc => ?_) (fun hc => ?_)
        · repeat refine AW.s rfl ?_
          try dsimp only [List.set_cons_zero, List.set_cons_succ, Option.toList_some, Option.toList_none, List.cons_append, List.nil_append]
          exact AW.ri rfl rfl rfl ⟨rfl, hI, KC.rf⟩
        · exact absurd rfl hc
  · have e0 : copyF Ω a i b j n = (-2, Ω) := by unfold copyF; rw [cif_f (fun q => q1 q.1)]
    rw [wB_0 q1, e0]
    refine AW.b rfl (fun hc => ?_) (fun hc => ?_)
    · repeat refine AW.s rfl ?_
      try dsimp only [List.set_cons_zero, List.set_cons_succ, Option.toList_some, Option.toList_none, List.cons_append, List.nil_append]
      exact AW.ri rfl rfl rfl ⟨rfl, hI, KC.rf⟩
    · exact absurd rfl hc
theorem addR_wf {σ : Sg} {k l n : Nat} (h : WF σ) (h6 : σ 0 2 < 6) (hk : k < 6) (hl : l < 26) (hn : n < 26) : WF (addR σ k l n) := by
  obtain ⟨a1, a2, a3, a4, a5, a6, a7, a8⟩ := h
  have e : ∀ b j, b ≠ 0 → b ≠ 3 → b ≠ 4 → b ≠ 5 → addR σ k l n b j = σ b j := fun b j h0 h3 h4 h5 => by
    unfold addR; rw [sU_o h0, sU_o h5, sU_o h4, sU_o h3]
  have e0 : ∀ j, j ≠ 2 → addR σ k l n 0 j = σ 0 j := fun j hj => by
    unfold addR; rw [sU_n (Or.inr hj), sU_o (by decide), sU_o (by decide), sU_o (by decide)]
  have e2 : addR σ k l n 0 2 = σ 0 2 + 1 := by unfold addR; rw [sU_t]
  have e3 : ∀ j, addR σ k l n 3 j = if j = σ 0 2 then k else σ 3 j := fun j => by
    unfold addR; rw [sU_o (by decide), sU_o (by decide), sU_o (by decide)]; unfold sU; simp
  have e4 : ∀ j, addR σ k l n 4 j = if j = σ 0 2 then l else σ 4 j := fun j => by
    unfold addR; rw [sU_o (by decide), sU_o (by decide)]; unfold sU; simp
  have e5 : ∀ j, addR σ k l n 5 j = if j = σ 0 2 then n else σ 5 j := fun j => by
    unfold addR; rw [sU_o (by decide)]; unfold sU; simp
  refine ⟨by rw [e0 0 (by decide)]; exact a1, by rw [e0 1 (by decide)]; exact a2, by rw [e2]; omega, by rw [e0 3 (by decide)]; exact a4, by rw [e0 4 (by decide)]; exact a5, fun w hw => ?_, fun r hr => ?_, fun i hi => ?_⟩
  · rw [e0 1 (by decide)] at hw
    rw [e 1 w (by decide) (by decide) (by decide) (by decide), e 2 w (by decide) (by decide) (by decide) (by decide)]
    obtain ⟨b1, b2, b3, b4⟩ := a6 w hw
    exact ⟨b1, b2, b3, fun q hq => by rw [e (10 + w) q (by omega) (by omega) (by omega) (by omega)]; exact b4 q hq⟩
  · rw [e2] at hr
    rw [e3, e4, e5]
    by_cases z : r = σ 0 2
    · rw [if_pos z, if_pos z, if_pos z]; exact ⟨hk, hl, hn⟩
    · rw [if_neg z, if_neg z, if_neg z]; exact a7 r (by omega)
  · rw [e0 3 (by decide)] at hi
    rw [e 6 i (by decide) (by decide) (by decide) (by decide), e2]
    have := a8 i hi
    omega
theorem WO.rule {Ω : OM} (h : WO Ω) (a b c : Int32) : WO (ruleF Ω a b c).2 := by
  unfold ruleF
  by_cases q1 : rB a b c = 1
  · rw [cif_t q1]
    by_cases q2 : (oG Ω) 0 2 = 6
    · rw [cif_t q2]; exact h
    · rw [cif_f q2]
      obtain ⟨q3, q4, q5⟩ := rB_1.mp q1
      obtain ⟨i, hi, rfl⟩ := (wB_1 (n := 5) (by decide)).mp q3
      obtain ⟨j, hj, rfl⟩ := (wB_1 (n := 25) (by decide)).mp q4
      obtain ⟨k, hk, rfl⟩ := (wB_1 (n := 25) (by decide)).mp q5
      rw [nI_clamp (by omega), nI_clamp (by omega), nI_clamp (by omega)]
      have h6 := h.1.2.2.1
      refine h.g (addR_wf h.1 (by omega) (by omega) (by omega) (by omega)) ?_ (fun kk => ?_)
      · rw [show addR (oG Ω) i j k 0 4 = (oG Ω) 0 4 by unfold addR; rw [sU_n (Or.inr (by decide)), sU_o (by decide), sU_o (by decide), sU_o (by decide)]]
        exact h.2.2.1
      · obtain ⟨x1, x2, x3, x4⟩ := h.2.1 kk
        refine ⟨?_, fun r hr => ?_⟩
        · rw [show addR (oG Ω) i j k 0 2 = (oG Ω) 0 2 + 1 by unfold addR; rw [sU_t]]
          omega
        · rw [show addR (oG Ω) i j k 3 r = (oG Ω) 3 r by unfold addR; rw [sU_o (by decide), sU_o (by decide), sU_o (by decide), sU_n (Or.inr (by omega))]]
          exact x3 r hr
  · rw [cif_f q1]; exact h
theorem ruleF_2 (Ω : OM) (a b c : Int32) : (ruleF Ω a b c).2.2 = Ω.2 := by
  unfold ruleF
  by_cases q1 : rB a b c = 1
  · rw [cif_t q1]
    by_cases q2 : (oG Ω) 0 2 = 6
    · rw [cif_t q2]
    · rw [cif_f q2]; rfl
  · rw [cif_f q1]
/-- f rules still to come, k are through, c came -/
noncomputable def rulG (i : Nat) (fr : Int32) (f k c : Nat) (Ω : OM) : Int32 × OM := match f with
  | 0 => (nI c, Ω)
  | f + 1 => cif (hoB (oZ Ω i) (fr + 3 * nI k) 3 = 1) (rulG i fr f (k + 1) (c + (if (ruleF Ω (oI Ω i (fr.toNatClampNeg + 3 * k)) (oI Ω i (fr.toNatClampNeg + 3 * k + 1)) (oI Ω i (fr.toNatClampNeg + 3 * k + 2))).1 < 0 then 0 else 1)) (ruleF Ω (oI Ω i (fr.toNatClampNeg + 3 * k)) (oI Ω i (fr.toNatClampNeg + 3 * k + 1)) (oI Ω i (fr.toNatClampNeg + 3 * k + 2))).2) (-12, Ω)
theorem rulG_s {i : Nat} {fr : Int32} {f k c : Nat} {Ω : OM} : rulG i fr (f + 1) k c Ω = cif (hoB (oZ Ω i) (fr + 3 * nI k) 3 = 1) (rulG i fr f (k + 1) (c + (if (ruleF Ω (oI Ω i (fr.toNatClampNeg + 3 * k)) (oI Ω i (fr.toNatClampNeg + 3 * k + 1)) (oI Ω i (fr.toNatClampNeg + 3 * k + 2))).1 < 0 then 0 else 1)) (ruleF Ω (oI Ω i (fr.toNatClampNeg + 3 * k)) (oI Ω i (fr.toNatClampNeg + 3 * k + 1)) (oI Ω i (fr.toNatClampNeg + 3 * k + 2))).2) (-12, Ω) := by rw [rulG]
noncomputable def rulesF (Ω : OM) (a s fr n : Int32) : Int32 × OM :=
  cif (wB a 3 = 1 ∧ wB s 2 = 1 ∧ wB n 6 = 1) (cif (oS Ω a.toNatClampNeg = -1) (-11, Ω) (cif (oS Ω a.toNatClampNeg = s) (rulG a.toNatClampNeg fr n.toNatClampNeg 0 0 Ω) (-13, Ω))) (-2, Ω)
theorem C_rules {l : Launch} {X : XT} {d : Nat} {a s fr n : Int32} {m : Mem} {Ω : OM} (hd : 7 ≤ d) (hW : WO Ω) (hI : InvC m Ω) : Meth l X d M_X10_rules [vR 11 0, vI a, vI s, vI fr, vI n] m (fun r m' => r = some (vI (rulesF Ω a s fr n).1) ∧ InvC m' (rulesF Ω a s fr n).2 ∧ KC m m') := by
  obtain ⟨d, rfl⟩ : ∃ e, d = e + 1 := ⟨d - 1, by omega⟩
  have hbad : ¬ (wB a 3 = 1 ∧ wB s 2 = 1 ∧ wB n 6 = 1) → AW (GM l X (d + 1) M_X10_rules (fun r m' => r = some (vI (rulesF Ω a s fr n).1) ∧ InvC m' (rulesF Ω a s fr n).2 ∧ KC m m')) 26 [vR 11 0, vI a, vI s, vI fr, vI n, vU, vU, vU, vU] [] m := by
    intro hn
    have e0 : rulesF Ω a s fr n = (-2, Ω) := by unfold rulesF; rw [cif_f hn]
    rw [e0]
    repeat refine AW.s rfl ?_
    try dsimp only [List.set_cons_zero, List.set_cons_succ, Option.toList_some, Option.toList_none, List.cons_append, List.nil_append]
    exact AW.ri rfl rfl rfl ⟨rfl, hI, KC.rf⟩
  refine E_X10_rules (ls := [vR 11 0, vI a, vI s, vI fr, vI n, vU, vU, vU, vU]) rfl rfl ?_
  repeat refine AW.s rfl ?_
  try dsimp only [List.set_cons_zero, List.set_cons_succ, Option.toList_some, Option.toList_none, List.cons_append, List.nil_append]
  refine AW.S k_10_109 ((c_isSheet (by omega))) rfl rfl rfl rfl (fun r1 m9 hq => ?_)
  obtain ⟨rfl, hm9⟩ := hq
  rw [hm9]
  try dsimp only [List.set_cons_zero, List.set_cons_succ, Option.toList_some, Option.toList_none, List.cons_append, List.nil_append]
  by_cases q1 : wB a 3 = 1
  · rw [q1]
    refine AW.b rfl (fun hc => ?_) (fun hc => ?_)
    · exact absurd hc (by decide)
    · repeat refine AW.s rfl ?_
      try dsimp only [List.set_cons_zero, List.set_cons_succ, Option.toList_some, Option.toList_none, List.cons_append, List.nil_append]
      refine AW.b rfl (fun hc => ?_) (fun hc => ?_)
      · have q2 := hc
        exact hbad (fun q => by have z := q.2.1; unfold wB at z; rw [if_pos q2] at z; exact absurd z (by decide))
      · have q2 := hc
        repeat refine AW.s rfl ?_
        try dsimp only [List.set_cons_zero, List.set_cons_succ, Option.toList_some, Option.toList_none, List.cons_append, List.nil_append]
        refine AW.b rfl (fun hc => ?_) (fun hc => ?_)
        · have q3 := hc
          exact hbad (fun q => by have z := q.2.1; unfold wB at z; rw [if_neg q2, if_pos q3] at z; exact absurd z (by decide))
        · have q3 := hc
          have q23 : wB s 2 = 1 := by unfold wB; rw [if_neg q2, if_neg q3]
          repeat refine AW.s rfl ?_
          try dsimp only [List.set_cons_zero, List.set_cons_succ, Option.toList_some, Option.toList_none, List.cons_append, List.nil_append]
          refine AW.S k_10_113 (c_isWithin) rfl rfl rfl rfl (fun r1 m8 hq => ?_)
          obtain ⟨rfl, hm8⟩ := hq
          rw [hm8]
          try dsimp only [List.set_cons_zero, List.set_cons_succ, Option.toList_some, Option.toList_none, List.cons_append, List.nil_append]
          by_cases q4 : wB n 6 = 1
          · rw [q4]
            obtain ⟨i, hi, rfl⟩ := (wB_1 (n := 3) (by decide)).mp q1
            obtain ⟨N, hN, rfl⟩ := (wB_1 (n := 6) (by decide)).mp q4
            have e0 : rulesF Ω (nI i) s fr (nI N) = cif (oS Ω i = -1) (-11, Ω) (cif (oS Ω i = s) (rulG i fr N 0 0 Ω) (-13, Ω)) := by
              unfold rulesF
              rw [cif_t ⟨q1, q23, q4⟩, nI_clamp (by omega), nI_clamp (by omega)]
            rw [e0]
            have eh : 0 + 42 + 193 + 2 * i = 235 + 2 * i := by omega
            obtain ⟨s1, s2, s3⟩ := hI.2.2.2.2.2.2.2 i (by omega)
            have hz := (hW.2.2.2.2.2.2 i (by omega)).le
            refine AW.b rfl (fun hc => ?_) (fun hc => ?_)
            · exact absurd hc (by decide)
            · repeat refine AW.s rfl ?_
              try dsimp only [List.set_cons_zero, List.set_cons_succ, Option.toList_some, Option.toList_none, List.cons_append, List.nil_append]
              refine AW.c rfl (vp_in_nI (by omega) (by decide)) ?_
              try dsimp only [List.set_cons_zero, List.set_cons_succ, Option.toList_some, Option.toList_none, List.cons_append, List.nil_append]
              rw [nI_clamp (by omega), eh]
              repeat refine AW.s rfl ?_
              try dsimp only [List.set_cons_zero, List.set_cons_succ, Option.toList_some, Option.toList_none, List.cons_append, List.nil_append]
              refine AW.V k_10_117 (c_isMissing) rfl rfl rfl rfl rfl rfl (fun r1 m7 hq => ?_)
              obtain ⟨rfl, hm7⟩ := hq
              rw [hm7, s1]
              try dsimp only [List.set_cons_zero, List.set_cons_succ, Option.toList_some, Option.toList_none, List.cons_append, List.nil_append]
              by_cases q5 : oS Ω i = -1
              · rw [if_pos q5, cif_t q5]
                refine AW.b rfl (fun hc => ?_) (fun hc => ?_)
                · exact absurd hc (by decide)
                · repeat refine AW.s rfl ?_
                  try dsimp only [List.set_cons_zero, List.set_cons_succ, Option.toList_some, Option.toList_none, List.cons_append, List.nil_append]
                  exact AW.ri rfl rfl rfl ⟨rfl, hI, KC.rf⟩
              · rw [if_neg q5, cif_f q5]
                refine AW.b rfl (fun hc => ?_) (fun hc => ?_)
                · repeat refine AW.s rfl ?_
                  try dsimp only [List.set_cons_zero, List.set_cons_succ, Option.toList_some, Option.toList_none, List.cons_append, List.nil_append]
                  rw [s1]
                  refine AW.b rfl (fun hc => ?_) (fun hc => ?_)
                  · have q6 := hc
                    rw [cif_t q6]
                    repeat refine AW.u 66 rfl rfl ?_
                    try dsimp only [List.set_cons_zero, List.set_cons_succ, Option.toList_some, Option.toList_none, List.cons_append, List.nil_append]
                    refine AW.loop (pc := 66) (σ := Nat × OM) N (fun k st => [vR 11 0, vI (nI i), vI s, vI fr, vI (nI N), vR 7 (235 + 2 * i), vI (nI st.1), vI (nI k), vU]) (fun k st m1 => WO st.2 ∧ InvC m1 st.2 ∧ st.2.2 = Ω.2 ∧ KC m m1 ∧ st.1 ≤ k ∧ (k = 0 ∨ ∃ f, f ≤ 40 ∧ fr = nI f) ∧ rulG i fr N 0 0 Ω = rulG i fr (N - k) k st.1 st.2) (fun k st m1 hk hm1 ih => ?_) 0 (0, Ω) m (Nat.zero_le _) ⟨hW, hI, rfl, KC.rf, Nat.le_refl _, Or.inl rfl, rfl⟩
                    obtain ⟨c, Ω1⟩ := st
                    obtain ⟨g1, g2, g3, g4, g5, g6, g7⟩ := hm1
                    have g1 : WO Ω1 := g1
                    have g2 : InvC m1 Ω1 := g2
                    have g3 : Ω1.2 = Ω.2 := g3
                    have g5 : c ≤ k := g5
                    have g7 : rulG i fr N 0 0 Ω = rulG i fr (N - k) k c Ω1 := g7
                    have hsh : ∀ x, Ω1.2.2.1 x = Ω.2.2.1 x := fun x => by rw [show Ω1.2 = Ω.2 from g3]
                    have hoz : oZ Ω1 i = oZ Ω i := by unfold oZ; rw [hsh]
                    have hoi : oI Ω1 i = oI Ω i := by unfold oI; rw [hsh]
                    obtain ⟨u1, u2, u3⟩ := g2.2.2.2.2.2.2.2 i (by omega)
                    repeat refine AW.s rfl ?_
                    try dsimp only [List.set_cons_zero, List.set_cons_succ, Option.toList_some, Option.toList_none, List.cons_append, List.nil_append]
                    refine AW.b rfl (fun hc => ?_) (fun hc => ?_)
                    · have hlt : k < N := (nI_ltI (by omega) (by omega)).mp hc
                      obtain ⟨f, hff⟩ : ∃ f, N - k = f + 1 := ⟨N - k - 1, by omega⟩
                      have hNk : N - (k + 1) = f := by omega
                      have hkk : k ≤ k + 1 := by omega
                      rw [hff, rulG_s] at g7
                      repeat refine AW.s rfl ?_
                      try dsimp only [List.set_cons_zero, List.set_cons_succ, Option.toList_some, Option.toList_none, List.cons_append, List.nil_append]
                      refine AW.V k_10_301 ((c_holds u2)) rfl rfl rfl rfl rfl rfl (fun r1 m6 hq => ?_)
                      obtain ⟨rfl, hm6⟩ := hq
                      rw [hm6]
                      try dsimp only [List.set_cons_zero, List.set_cons_succ, Option.toList_some, Option.toList_none, List.cons_append, List.nil_append]
                      by_cases q7 : hoB (oZ Ω1 i) (fr + 3 * nI k) 3 = 1
                      · rw [q7]
                        rw [cif_t q7] at g7
                        obtain ⟨F, c3, eF, ec3, hF⟩ := (hoB_1 (by rw [hoz]; omega)).mp q7
                        have hc3 : c3 = 3 := by
                          have := (nI_eq (a := 3) (by decide) (by omega)).mp ec3
                          omega
                        subst hc3
                        rw [hoz] at hF
                        have hfr : ∃ f, f ≤ 40 ∧ fr = nI f := by
                          rcases g6 with rfl | g6
                          · exact ⟨F, by omega, by rw [← eF]; show fr = fr + 3 * 0; simp⟩
                          · exact g6
                        obtain ⟨φ, hφ, rfl⟩ := hfr
                        have eF2 : nI φ + 3 * nI k = nI (φ + 3 * k) := by rw [show (3 : Int32) * nI k = nI (3 * k) from pk_mul 3 k, nI_add]
                        have hFF : F = φ + 3 * k := by
                          rw [eF2] at eF
                          exact ((nI_eq (by omega) (by omega)).mp eF).symm
                        subst hFF
                        rw [nI_clamp (show φ < 2 ^ 31 by omega)] at g7
                        refine AW.b rfl (fun hc => ?_) (fun hc => ?_)
                        · exact absurd hc (by decide)
                        · repeat refine AW.s rfl ?_
                          try dsimp only [List.set_cons_zero, List.set_cons_succ, Option.toList_some, Option.toList_none, List.cons_append, List.nil_append]
                          rw [eF2]
                          refine AW.c rfl (vp_in_nI (by omega) (by decide)) ?_
                          try dsimp only [List.set_cons_zero, List.set_cons_succ, Option.toList_some, Option.toList_none, List.cons_append, List.nil_append]
                          rw [nI_clamp (by omega)]
                          repeat refine AW.s rfl ?_
                          try dsimp only [List.set_cons_zero, List.set_cons_succ, Option.toList_some, Option.toList_none, List.cons_append, List.nil_append]
                          rw [nI_1]
                          refine AW.c rfl (vp_in_nI (by omega) (by decide)) ?_
                          try dsimp only [List.set_cons_zero, List.set_cons_succ, Option.toList_some, Option.toList_none, List.cons_append, List.nil_append]
                          rw [nI_clamp (by omega)]
                          repeat refine AW.s rfl ?_
                          try dsimp only [List.set_cons_zero, List.set_cons_succ, Option.toList_some, Option.toList_none, List.cons_append, List.nil_append]
                          rw [show nI (φ + 3 * k) + 2 = nI (φ + 3 * k + 2) from nI_add _ 2]
                          refine AW.c rfl (vp_in_nI (by omega) (by decide)) ?_
                          try dsimp only [List.set_cons_zero, List.set_cons_succ, Option.toList_some, Option.toList_none, List.cons_append, List.nil_append]
                          rw [nI_clamp (by omega), u3 _ (by rw [hoz]; omega), u3 _ (by rw [hoz]; omega), u3 _ (by rw [hoz]; omega)]
                          repeat refine AW.s rfl ?_
                          try dsimp only [List.set_cons_zero, List.set_cons_succ, Option.toList_some, Option.toList_none, List.cons_append, List.nil_append]
                          refine AW.V k_10_313 ((C_rule (by omega) g1 g2)) rfl rfl rfl rfl rfl rfl (fun r1 m5 hq => ?_)
                          obtain ⟨rfl, p1, p2, p3⟩ := hq
                          have W2 := g1.rule (oI Ω1 i (φ + 3 * k)) (oI Ω1 i (φ + 3 * k + 1)) (oI Ω1 i (φ + 3 * k + 2))
                          have E2 := ruleF_2 Ω1 (oI Ω1 i (φ + 3 * k)) (oI Ω1 i (φ + 3 * k + 1)) (oI Ω1 i (φ + 3 * k + 2))
                          repeat refine AW.s rfl ?_
                          try dsimp only [List.set_cons_zero, List.set_cons_succ, Option.toList_some, Option.toList_none, List.cons_append, List.nil_append]
                          refine AW.b rfl (fun hc => ?_) (fun hc => ?_)
                          · rw [if_pos hc] at g7
                            repeat refine AW.u 66 rfl rfl ?_
                            try dsimp only [List.set_cons_zero, List.set_cons_succ, Option.toList_some, Option.toList_none, List.cons_append, List.nil_append]
                            refine AW.fg 8 ?_
                            try dsimp only [List.set_cons_zero, List.set_cons_succ, Option.toList_some, Option.toList_none, List.cons_append, List.nil_append]
                            rw [nI_1]
                            exact ih (c, _) m5 hlt ⟨W2, p1, E2.trans g3, g4.tr p2, Nat.le_trans g5 hkk, Or.inr ⟨φ, hφ, rfl⟩, by rw [hNk]; exact g7⟩
                          · rw [if_neg hc] at g7
                            repeat refine AW.u 66 rfl rfl ?_
                            try dsimp only [List.set_cons_zero, List.set_cons_succ, Option.toList_some, Option.toList_none, List.cons_append, List.nil_append]
                            refine AW.fg 8 ?_
                            try dsimp only [List.set_cons_zero, List.set_cons_succ, Option.toList_some, Option.toList_none, List.cons_append, List.nil_append]
                            rw [nI_1, nI_1]
                            exact ih (c + 1, _) m5 hlt ⟨W2, p1, E2.trans g3, g4.tr p2, Nat.succ_le_succ g5, Or.inr ⟨φ, hφ, rfl⟩, by rw [hNk]; exact g7⟩
                      · rw [hoB_0 q7]
                        rw [cif_f q7] at g7
                        rw [g7]
                        refine AW.b rfl (fun hc => ?_) (fun hc => ?_)
                        · repeat refine AW.s rfl ?_
                          try dsimp only [List.set_cons_zero, List.set_cons_succ, Option.toList_some, Option.toList_none, List.cons_append, List.nil_append]
                          exact AW.ri rfl rfl rfl ⟨rfl, g2, g4⟩
                        · exact absurd rfl hc
                    · have : k = N := by
                        have : ¬ k < N := fun q => hc ((nI_ltI (by omega) (by omega)).mpr q)
                        omega
                      subst this
                      rw [Nat.sub_self] at g7
                      have g7 : rulG i fr k 0 0 Ω = (nI c, Ω1) := g7
                      rw [g7]
                      repeat refine AW.s rfl ?_
                      try dsimp only [List.set_cons_zero, List.set_cons_succ, Option.toList_some, Option.toList_none, List.cons_append, List.nil_append]
                      exact AW.ri rfl rfl rfl ⟨rfl, g2, g4⟩
                  · have q6 := hc
                    rw [cif_f q6]
                    repeat refine AW.s rfl ?_
                    try dsimp only [List.set_cons_zero, List.set_cons_succ, Option.toList_some, Option.toList_none, List.cons_append, List.nil_append]
                    exact AW.ri rfl rfl rfl ⟨rfl, hI, KC.rf⟩
                · exact absurd rfl hc
          · rw [wB_0 q4]
            refine AW.b rfl (fun hc => ?_) (fun hc => ?_)
            · exact hbad (fun q => q4 q.2.2)
            · exact absurd rfl hc
  · rw [wB_0 q1]
    refine AW.b rfl (fun hc => ?_) (fun hc => ?_)
    · exact hbad (fun q => q1 q.1)
    · exact absurd rfl hc
