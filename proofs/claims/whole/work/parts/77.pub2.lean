-- ===== of, all, leave, order, letter =====
theorem tsw {x : Int32} {n : Nat} (hn : n < 2 ^ 30) (h : ∀ p, p ≤ n → ¬ x = nI p) : x.toInt < 0 ∨ (n : Int) < x.toInt := by
  by_cases h0 : x < 0
  · exact Or.inl (Int32.lt_iff_toInt_lt.mp h0)
  · obtain ⟨j, hj, rfl⟩ := nI_of h0
    right
    rw [nI_toInt hj]
    have : ¬ j ≤ n := fun q => h j q rfl
    omega
theorem jdgV_ext {σ : Sg} {τ τ' : Nat → (Nat → Int32) → Int32} {w p : Nat} (hp : p < 3) (h : ∀ p, p < 3 → ∀ F, τ' p F = τ p F) : jdgV σ τ' w p = jdgV σ τ w p := by
  unfold jdgV
  cases saidS σ (rowL σ) w with
  | none => rfl
  | some xs =>
    show (if p = 0 then hardV σ (rowL σ) (τ' 0 (fctV σ (rowL σ) w xs)) else τ' p (fctV σ (rowL σ) w xs)) = (if p = 0 then hardV σ (rowL σ) (τ 0 (fctV σ (rowL σ) w xs)) else τ p (fctV σ (rowL σ) w xs))
    rw [h 0 (by decide), h p hp]
def ofR (Ω : OM) (a b x : Int32) : Prop :=
  (∃ w, w < (oG Ω) 0 1 ∧ a = nI w ∧ ((∃ p, p < 3 ∧ b = nI p ∧ x = jdgV (oG Ω) (oV Ω ((oG Ω) 0 4)) w p) ∨ (b = 3 ∧ x = rndF (oG Ω) w 60 1 (some (wl (oG Ω) w))) ∨ (b = 4 ∧ isBits x (fun i => i < (oG Ω) 1 w ∧ ∀ c, c < 26 → safeC (oG Ω) w i c)) ∨ ((∀ p, p ≤ 4 → ¬ b = nI p) ∧ x = -2))) ∨ ((¬ ∃ w, w < (oG Ω) 0 1 ∧ a = nI w) ∧ x = -2)
theorem C_of {l : Launch} {X : XT} {d : Nat} {a b : Int32} {m : Mem} {Ω : OM} (hd : 7 ≤ d) (hW : WO Ω) (hI : InvC m Ω) : Meth l X d M_X10_of [vR 11 0, vI a, vI b] m (fun r m' => ∃ x, r = some (vI x) ∧ ofR Ω a b x ∧ FrC m m') := by
  obtain ⟨d, rfl⟩ : ∃ e, d = e + 1 := ⟨d - 1, by omega⟩
  have h1 := hW.1.2.1
  obtain ⟨en, t1, t2⟩ := hI.law hW
  refine E_X10_of (ls := [vR 11 0, vI a, vI b]) rfl rfl ?_
  repeat refine AW.s rfl ?_
  try dsimp only [List.set_cons_zero, List.set_cons_succ, Option.toList_some, Option.toList_none, List.cons_append, List.nil_append]
  refine AW.V k_10_166 ((c_hasWord hI.1)) rfl rfl rfl rfl rfl rfl (fun r1 m9 hq => ?_)
  obtain ⟨rfl, hm9⟩ := hq
  rw [hm9]
  try dsimp only [List.set_cons_zero, List.set_cons_succ, Option.toList_some, Option.toList_none, List.cons_append, List.nil_append]
  by_cases q1 : hB a ((oG Ω) 0 1) = 1
  · rw [q1]
    obtain ⟨w, hw, rfl⟩ := (hB_1 (by omega)).mp q1
    refine AW.b rfl (fun hc => ?_) (fun hc => ?_)
    · exact absurd hc (by decide)
    · repeat refine AW.s rfl ?_
      try dsimp only [List.set_cons_zero, List.set_cons_succ, Option.toList_some, Option.toList_none, List.cons_append, List.nil_append]
      have hj : ∀ p, p < 3 → AW (GM l X (d + 1) M_X10_of (fun r m' => ∃ x, r = some (vI x) ∧ ofR Ω (nI w) (nI p) x ∧ FrC m m')) 48 [vR 11 0, vI (nI w), vI (nI p)] [] m := by
        intro p hp
        repeat refine AW.s rfl ?_
        try dsimp only [List.set_cons_zero, List.set_cons_succ, Option.toList_some, Option.toList_none, List.cons_append, List.nil_append]
        refine AW.V k_10_197 ((c_judged (en := en) (by omega) hI.1 hW.1 hw hp t1)) rfl rfl rfl rfl rfl rfl (fun r1 m7 hq => ?_)
        obtain ⟨rfl, fr⟩ := hq
        repeat refine AW.s rfl ?_
        try dsimp only [List.set_cons_zero, List.set_cons_succ, Option.toList_some, Option.toList_none, List.cons_append, List.nil_append]
        exact AW.ri rfl rfl rfl ⟨_, rfl, Or.inl ⟨w, hw, rfl, Or.inl ⟨p, hp, rfl, jdgV_ext hp t2⟩⟩, fr⟩
      by_cases b0 : b = nI 0
      · subst b0
        refine AW.tin (tgt := 48) rfl (by decide) (by decide) rfl (by decide) ?_
        exact hj 0 (by decide)
      · by_cases b1 : b = nI 1
        · subst b1
          refine AW.tin (tgt := 48) rfl (by decide) (by decide) rfl (by decide) ?_
          exact hj 1 (by decide)
        · by_cases b2 : b = nI 2
          · subst b2
            refine AW.tin (tgt := 48) rfl (by decide) (by decide) rfl (by decide) ?_
            exact hj 2 (by decide)
          · by_cases b3 : b = nI 3
            · subst b3
              refine AW.tin (tgt := 55) rfl (by decide) (by decide) rfl (by decide) ?_
              repeat refine AW.s rfl ?_
              try dsimp only [List.set_cons_zero, List.set_cons_succ, Option.toList_some, Option.toList_none, List.cons_append, List.nil_append]
              refine AW.V k_10_200 ((c_roundOf (by omega) hI.1 hW.1 hw)) rfl rfl rfl rfl rfl rfl (fun r1 m7 hq => ?_)
              obtain ⟨rfl, fr⟩ := hq
              repeat refine AW.s rfl ?_
              try dsimp only [List.set_cons_zero, List.set_cons_succ, Option.toList_some, Option.toList_none, List.cons_append, List.nil_append]
              exact AW.ri rfl rfl rfl ⟨_, rfl, Or.inl ⟨w, hw, rfl, Or.inr (Or.inl ⟨rfl, rfl⟩)⟩, fr⟩
            · by_cases b4 : b = nI 4
              · subst b4
                refine AW.tin (tgt := 61) rfl (by decide) (by decide) rfl (by decide) ?_
                repeat refine AW.s rfl ?_
                try dsimp only [List.set_cons_zero, List.set_cons_succ, Option.toList_some, Option.toList_none, List.cons_append, List.nil_append]
                refine AW.V k_10_203 ((c_safeLetters (by omega) hI.1 hW.1 hw)) rfl rfl rfl rfl rfl rfl (fun r1 m7 hq => ?_)
                obtain ⟨x, rfl, hx, fr⟩ := hq
                repeat refine AW.s rfl ?_
                try dsimp only [List.set_cons_zero, List.set_cons_succ, Option.toList_some, Option.toList_none, List.cons_append, List.nil_append]
                exact AW.ri rfl rfl rfl ⟨_, rfl, Or.inl ⟨w, hw, rfl, Or.inr (Or.inr (Or.inl ⟨rfl, hx⟩))⟩, fr⟩
              · have hall : ∀ p, p ≤ 4 → ¬ b = nI p := by
                  intro p hp
                  rcases (show p = 0 ∨ p = 1 ∨ p = 2 ∨ p = 3 ∨ p = 4 by omega) with e | e | e | e | e <;> subst e <;> assumption
                refine AW.tout (tgt := 67) rfl (tsw (n := 4) (by decide) hall) (by decide) ?_
                repeat refine AW.s rfl ?_
                try dsimp only [List.set_cons_zero, List.set_cons_succ, Option.toList_some, Option.toList_none, List.cons_append, List.nil_append]
                exact AW.ri rfl rfl rfl ⟨_, rfl, Or.inl ⟨w, hw, rfl, Or.inr (Or.inr (Or.inr ⟨hall, rfl⟩))⟩, FrC.rf⟩
  · rw [hB_0 q1]
    refine AW.b rfl (fun hc => ?_) (fun hc => ?_)
    · repeat refine AW.s rfl ?_
      try dsimp only [List.set_cons_zero, List.set_cons_succ, Option.toList_some, Option.toList_none, List.cons_append, List.nil_append]
      exact AW.ri rfl rfl rfl ⟨_, rfl, Or.inr ⟨fun q => q1 ((hB_1 (by omega)).mpr q), rfl⟩, FrC.rf⟩
    · exact absurd rfl hc
def allR (Ω : OM) (b x : Int32) : Prop :=
  (b = 0 ∧ x = wthO Ω ((oG Ω) 0 4) (rowL (oG Ω))) ∨ (b = 1 ∧ isBits x (alikeP ((oG Ω) 0 1) (saidS (oG Ω) (rowL (oG Ω))))) ∨ (b = 2 ∧ isLeast (fun d => ∃ p q, p < q ∧ q < (oG Ω) 0 1 ∧ apD (saidS (oG Ω) (rowL (oG Ω))) p q d) x) ∨ (b = 3 ∧ isBits x (fun r => r < (oG Ω) 0 2 ∧ idleP (oG Ω) r)) ∨ (b = 4 ∧ isBits x (fun i => i < (oG Ω) 0 1 ∧ saidS (oG Ω) (rowL (oG Ω)) i = none)) ∨ ((∀ p, p ≤ 4 → ¬ b = nI p) ∧ x = -100000)
theorem C_all {l : Launch} {X : XT} {d : Nat} {b : Int32} {m : Mem} {Ω : OM} (hd : 7 ≤ d) (hW : WO Ω) (hI : InvC m Ω) : Meth l X d M_X10_all [vR 11 0, vI b] m (fun r m' => ∃ x, r = some (vI x) ∧ allR Ω b x ∧ FrC m m') := by
  obtain ⟨d, rfl⟩ : ∃ e, d = e + 1 := ⟨d - 1, by omega⟩
  have h1 := hW.1.2.1
  have hfw : ∀ w, w < (oG Ω) 0 1 → WFo (saidS (oG Ω) (rowL (oG Ω)) w) := fun w hw => saidS_wf hW.1 (rowL_wf hW.1) hw
  refine E_X10_all (ls := [vR 11 0, vI b]) rfl rfl ?_
  repeat refine AW.s rfl ?_
  try dsimp only [List.set_cons_zero, List.set_cons_succ, Option.toList_some, Option.toList_none, List.cons_append, List.nil_append]
  by_cases b0 : b = nI 0
  · subst b0
    refine AW.tin (tgt := 36) rfl (by decide) (by decide) rfl (by decide) ?_
    repeat refine AW.s rfl ?_
    try dsimp only [List.set_cons_zero, List.set_cons_succ, Option.toList_some, Option.toList_none, List.cons_append, List.nil_append]
    refine AW.V k_10_206 ((C_worthBy (ρ := 16) (by omega) hW hI (rowL_wf hW.1) hI.1.row (by omega) (by omega))) rfl rfl rfl rfl rfl rfl (fun r1 m7 hq => ?_)
    obtain ⟨rfl, fr⟩ := hq
    repeat refine AW.s rfl ?_
    try dsimp only [List.set_cons_zero, List.set_cons_succ, Option.toList_some, Option.toList_none, List.cons_append, List.nil_append]
    exact AW.ri rfl rfl rfl ⟨_, rfl, Or.inl ⟨rfl, rfl⟩, fr⟩
  · by_cases b1 : b = nI 1
    · subst b1
      refine AW.tin (tgt := 48) rfl (by decide) (by decide) rfl (by decide) ?_
      repeat refine AW.s rfl ?_
      try dsimp only [List.set_cons_zero, List.set_cons_succ, Option.toList_some, Option.toList_none, List.cons_append, List.nil_append]
      refine AW.V k_10_210 ((c_sayAll (H := 43) (ρ := 16) (by omega) hI.1 hW.1 (rowL_wf hW.1) hI.1.row (by decide) (by omega))) rfl rfl rfl rfl rfl rfl (fun r1 m7 hq => ?_)
      obtain ⟨rfl, hY, fr⟩ := hq
      repeat refine AW.s rfl ?_
      try dsimp only [List.set_cons_zero, List.set_cons_succ, Option.toList_some, Option.toList_none, List.cons_append, List.nil_append]
      refine AW.V k_10_214 ((c_alike (H := 43) (by omega) h1 hY hfw)) rfl rfl rfl rfl rfl rfl (fun r1 m6 hq => ?_)
      obtain ⟨x, rfl, hx, hm6⟩ := hq
      rw [hm6]
      repeat refine AW.s rfl ?_
      try dsimp only [List.set_cons_zero, List.set_cons_succ, Option.toList_some, Option.toList_none, List.cons_append, List.nil_append]
      exact AW.ri rfl rfl rfl ⟨_, rfl, Or.inr (Or.inl ⟨rfl, hx⟩), fun a ha => fr a (by omega)⟩
    · by_cases b2 : b = nI 2
      · subst b2
        refine AW.tin (tgt := 74) rfl (by decide) (by decide) rfl (by decide) ?_
        repeat refine AW.s rfl ?_
        try dsimp only [List.set_cons_zero, List.set_cons_succ, Option.toList_some, Option.toList_none, List.cons_append, List.nil_append]
        refine AW.V k_10_210 ((c_sayAll (H := 43) (ρ := 16) (by omega) hI.1 hW.1 (rowL_wf hW.1) hI.1.row (by decide) (by omega))) rfl rfl rfl rfl rfl rfl (fun r1 m7 hq => ?_)
        obtain ⟨rfl, hY, fr⟩ := hq
        repeat refine AW.s rfl ?_
        try dsimp only [List.set_cons_zero, List.set_cons_succ, Option.toList_some, Option.toList_none, List.cons_append, List.nil_append]
        refine AW.V k_10_217 ((c_apart (H := 43) (by omega) h1 hY hfw)) rfl rfl rfl rfl rfl rfl (fun r1 m6 hq => ?_)
        obtain ⟨x, rfl, hx, hm6⟩ := hq
        rw [hm6]
        repeat refine AW.s rfl ?_
        try dsimp only [List.set_cons_zero, List.set_cons_succ, Option.toList_some, Option.toList_none, List.cons_append, List.nil_append]
        exact AW.ri rfl rfl rfl ⟨_, rfl, Or.inr (Or.inr (Or.inl ⟨rfl, hx⟩)), fun a ha => fr a (by omega)⟩
      · by_cases b3 : b = nI 3
        · subst b3
          refine AW.tin (tgt := 100) rfl (by decide) (by decide) rfl (by decide) ?_
          repeat refine AW.s rfl ?_
          try dsimp only [List.set_cons_zero, List.set_cons_succ, Option.toList_some, Option.toList_none, List.cons_append, List.nil_append]
          refine AW.V k_10_220 ((c_idleRules (by omega) hI.1 hW.1)) rfl rfl rfl rfl rfl rfl (fun r1 m7 hq => ?_)
          obtain ⟨x, rfl, hx, fr⟩ := hq
          repeat refine AW.s rfl ?_
          try dsimp only [List.set_cons_zero, List.set_cons_succ, Option.toList_some, Option.toList_none, List.cons_append, List.nil_append]
          exact AW.ri rfl rfl rfl ⟨_, rfl, Or.inr (Or.inr (Or.inr (Or.inl ⟨rfl, hx⟩))), fr⟩
        · by_cases b4 : b = nI 4
          · subst b4
            refine AW.tin (tgt := 105) rfl (by decide) (by decide) rfl (by decide) ?_
            repeat refine AW.s rfl ?_
            try dsimp only [List.set_cons_zero, List.set_cons_succ, Option.toList_some, Option.toList_none, List.cons_append, List.nil_append]
            refine AW.V k_10_210 ((c_sayAll (H := 43) (ρ := 16) (by omega) hI.1 hW.1 (rowL_wf hW.1) hI.1.row (by decide) (by omega))) rfl rfl rfl rfl rfl rfl (fun r1 m7 hq => ?_)
            obtain ⟨rfl, hY, fr⟩ := hq
            repeat refine AW.s rfl ?_
            try dsimp only [List.set_cons_zero, List.set_cons_succ, Option.toList_some, Option.toList_none, List.cons_append, List.nil_append]
            refine AW.V k_10_223 ((c_tooLongs (H := 43) (by omega) h1 hY hfw)) rfl rfl rfl rfl rfl rfl (fun r1 m6 hq => ?_)
            obtain ⟨x, rfl, hx, hm6⟩ := hq
            rw [hm6]
            repeat refine AW.s rfl ?_
            try dsimp only [List.set_cons_zero, List.set_cons_succ, Option.toList_some, Option.toList_none, List.cons_append, List.nil_append]
            exact AW.ri rfl rfl rfl ⟨_, rfl, Or.inr (Or.inr (Or.inr (Or.inr (Or.inl ⟨rfl, hx⟩)))), fun a ha => fr a (by omega)⟩
          · have hall : ∀ p, p ≤ 4 → ¬ b = nI p := by
              intro p hp
              rcases (show p = 0 ∨ p = 1 ∨ p = 2 ∨ p = 3 ∨ p = 4 by omega) with e | e | e | e | e <;> subst e <;> assumption
            refine AW.tout (tgt := 131) rfl (tsw (n := 4) (by decide) hall) (by decide) ?_
            repeat refine AW.s rfl ?_
            try dsimp only [List.set_cons_zero, List.set_cons_succ, Option.toList_some, Option.toList_none, List.cons_append, List.nil_append]
            exact AW.ri rfl rfl rfl ⟨_, rfl, Or.inr (Or.inr (Or.inr (Or.inr (Or.inr ⟨hall, rfl⟩)))), FrC.rf⟩
/-- best place to leave out and worth then, of the first i -/
def lvS (Ω : OM) (i : Nat) : Int32 × Int32 := match i with
  | 0 => (-1, wthO Ω ((oG Ω) 0 4) (rowL (oG Ω)))
  | i + 1 => if (lvS Ω i).2 < wthO Ω ((oG Ω) 0 4) ((rowL (oG Ω)).eraseIdx i) then (nI i, wthO Ω ((oG Ω) 0 4) ((rowL (oG Ω)).eraseIdx i)) else lvS Ω i
theorem lvS_s (Ω : OM) (i : Nat) : lvS Ω (i + 1) = if (lvS Ω i).2 < wthO Ω ((oG Ω) 0 4) ((rowL (oG Ω)).eraseIdx i) then (nI i, wthO Ω ((oG Ω) 0 4) ((rowL (oG Ω)).eraseIdx i)) else lvS Ω i := by rw [lvS]
def leaveF (Ω : OM) (b : Int32) : Int32 := if wB b 1 = 1 then (if b = 0 then (lvS Ω ((oG Ω) 0 3)).1 else (lvS Ω ((oG Ω) 0 3)).2) else -100000
theorem wfr_erase {σ : Sg} {rw : List Nat} (h : WFr σ rw) (i : Nat) : WFr σ (rw.eraseIdx i) := by
  refine ⟨Nat.le_trans ?_ h.1, fun r hr => h.2 r (List.mem_of_mem_eraseIdx hr)⟩
  exact (List.eraseIdx_sublist rw i).length_le
theorem C_leave {l : Launch} {X : XT} {d : Nat} {b : Int32} {m : Mem} {Ω : OM} (hd : 7 ≤ d) (hW : WO Ω) (hI : InvC m Ω) : Meth l X d M_X10_leave [vR 11 0, vI b] m (fun r m' => r = some (vI (leaveF Ω b)) ∧ FrC m m') := by
  obtain ⟨d, rfl⟩ : ∃ e, d = e + 1 := ⟨d - 1, by omega⟩
  have h3 := hW.1.2.2.2.1
  refine E_X10_leave (ls := [vR 11 0, vI b, vU, vU, vU, vU]) rfl rfl ?_
  repeat refine AW.s rfl ?_
  try dsimp only [List.set_cons_zero, List.set_cons_succ, Option.toList_some, Option.toList_none, List.cons_append, List.nil_append]
  refine AW.S k_10_113 (c_isWithin) rfl rfl rfl rfl (fun r1 m9 hq => ?_)
  obtain ⟨rfl, hm9⟩ := hq
  rw [hm9]
  try dsimp only [List.set_cons_zero, List.set_cons_succ, Option.toList_some, Option.toList_none, List.cons_append, List.nil_append]
  by_cases q1 : wB b 1 = 1
  · have e0 : leaveF Ω b = if b = 0 then (lvS Ω ((oG Ω) 0 3)).1 else (lvS Ω ((oG Ω) 0 3)).2 := if_pos q1
    rw [q1, e0]
    refine AW.b rfl (fun hc => ?_) (fun hc => ?_)
    · exact absurd hc (by decide)
    · repeat refine AW.s rfl ?_
      try dsimp only [List.set_cons_zero, List.set_cons_succ, Option.toList_some, Option.toList_none, List.cons_append, List.nil_append]
      refine AW.V k_10_206 ((C_worthBy (ρ := 16) (by omega) hW hI (rowL_wf hW.1) hI.1.row (by omega) (by omega))) rfl rfl rfl rfl rfl rfl (fun r1 m7 hq => ?_)
      obtain ⟨rfl, fr⟩ := hq
      repeat refine AW.u 28 rfl rfl ?_
      try dsimp only [List.set_cons_zero, List.set_cons_succ, Option.toList_some, Option.toList_none, List.cons_append, List.nil_append]
      refine AW.loop (pc := 28) (σ := AV) ((oG Ω) 0 3) (fun i v => [vR 11 0, vI b, vI (lvS Ω i).1, vI (lvS Ω i).2, vI (nI i), vU]) (fun i _ m1 => FrC m m1) (fun i v m1 hi hf ih => ?_) 0 vU m7 (Nat.zero_le _) fr
      have hI1 := hI.fr hW hf
      repeat refine AW.s rfl ?_
      try dsimp only [List.set_cons_zero, List.set_cons_succ, Option.toList_some, Option.toList_none, List.cons_append, List.nil_append]
      rw [show m1 (0 + 1 + 15) 1 = nI ((oG Ω) 0 3) from hI1.1.2.2.2.2.2.2.1]
      refine AW.b rfl (fun hc => ?_) (fun hc => ?_)
      · have hlt : i < (oG Ω) 0 3 := (nI_ltI (by omega) (by omega)).mp hc
        repeat refine AW.s rfl ?_
        try dsimp only [List.set_cons_zero, List.set_cons_succ, Option.toList_some, Option.toList_none, List.cons_append, List.nil_append]
        refine AW.V k_10_227 ((c_becomeWithout (h := 63) (ρ := 16) (p := i) (by omega) hI1.1.row (rowL_wf hW.1).1 (by rw [rowL_len]; exact hlt) (by decide))) rfl rfl rfl rfl rfl rfl (fun r1 m6 hq => ?_)
        obtain ⟨rfl, p1, p2⟩ := hq
        have f2 : FrC m1 m6 := fun a ha => p2 a (by omega) (by omega)
        repeat refine AW.s rfl ?_
        try dsimp only [List.set_cons_zero, List.set_cons_succ, Option.toList_some, Option.toList_none, List.cons_append, List.nil_append]
        refine AW.V k_10_206 ((C_worthBy (ρ := 63) (by omega) hW (hI1.fr hW f2) (wfr_erase (rowL_wf hW.1) i) p1 (by omega) (by omega))) rfl rfl rfl rfl rfl rfl (fun r1 m5 hq => ?_)
        obtain ⟨rfl, f3⟩ := hq
        have ff := (hf.tr f2).tr f3
        have es := lvS_s Ω i
        repeat refine AW.s rfl ?_
        try dsimp only [List.set_cons_zero, List.set_cons_succ, Option.toList_some, Option.toList_none, List.cons_append, List.nil_append]
        refine AW.b rfl (fun hc => ?_) (fun hc => ?_)
        · have q2 := hc
          rw [if_pos q2] at es
          repeat refine AW.u 28 rfl rfl ?_
          try dsimp only [List.set_cons_zero, List.set_cons_succ, Option.toList_some, Option.toList_none, List.cons_append, List.nil_append]
          refine AW.fg 5 ?_
          try dsimp only [List.set_cons_zero, List.set_cons_succ, Option.toList_some, Option.toList_none, List.cons_append, List.nil_append]
          have ih := ih vU m5 hlt ff
          rw [es] at ih
          rw [nI_1]
          exact ih
        · have q2 := hc
          rw [if_neg q2] at es
          repeat refine AW.u 28 rfl rfl ?_
          try dsimp only [List.set_cons_zero, List.set_cons_succ, Option.toList_some, Option.toList_none, List.cons_append, List.nil_append]
          refine AW.fg 5 ?_
          try dsimp only [List.set_cons_zero, List.set_cons_succ, Option.toList_some, Option.toList_none, List.cons_append, List.nil_append]
          have ih := ih vU m5 hlt ff
          rw [es] at ih
          rw [nI_1]
          exact ih
      · have : i = (oG Ω) 0 3 := by
          have : ¬ i < (oG Ω) 0 3 := fun q => hc ((nI_ltI (by omega) (by omega)).mpr q)
          omega
        subst this
        repeat refine AW.s rfl ?_
        try dsimp only [List.set_cons_zero, List.set_cons_succ, Option.toList_some, Option.toList_none, List.cons_append, List.nil_append]
        refine AW.b rfl (fun hc => ?_) (fun hc => ?_)
        · rw [if_pos hc]
          repeat refine AW.s rfl ?_
          try dsimp only [List.set_cons_zero, List.set_cons_succ, Option.toList_some, Option.toList_none, List.cons_append, List.nil_append]
          exact AW.ri rfl rfl rfl ⟨rfl, hf⟩
        · rw [if_neg hc]
          repeat refine AW.s rfl ?_
          try dsimp only [List.set_cons_zero, List.set_cons_succ, Option.toList_some, Option.toList_none, List.cons_append, List.nil_append]
          exact AW.ri rfl rfl rfl ⟨rfl, hf⟩
  · have e0 : leaveF Ω b = -100000 := if_neg q1
    rw [wB_0 q1, e0]
    refine AW.b rfl (fun hc => ?_) (fun hc => ?_)
    · repeat refine AW.s rfl ?_
      try dsimp only [List.set_cons_zero, List.set_cons_succ, Option.toList_some, Option.toList_none, List.cons_append, List.nil_append]
      exact AW.ri rfl rfl rfl ⟨rfl, FrC.rf⟩
    · exact absurd rfl hc
/-- of all ways: worth and digits of the best -/
def ordS (Ω : OM) : KB := ((cmpW ((oG Ω) 0 2) ((oG Ω) 0 2) []).map (wayV (oG Ω) (oV Ω ((oG Ω) 0 4)))).foldl kbF (1, 0, 0)
def orderF (Ω : OM) (b : Int32) : Int32 := if wB b 1 = 1 then (if b = 0 then (ordS Ω).2.1 else (ordS Ω).2.2) else -100000
theorem cmpW_ne : ∀ n, n < 7 → cmpW n n [] ≠ [] := by
  intro n hn
  have h : ∀ n, n < 7 → (cmpW n n []).isEmpty = false := by decide +kernel
  intro e
  have := h n hn
  rw [e] at this
  cases this
theorem kb_st {L : List (Int32 × Int32)} (h : L ≠ []) (a b : Int32) : L.foldl kbF (1, a, b) = L.foldl kbF (1, 0, 0) := by
  cases L with
  | nil => exact absurd rfl h
  | cons q r => rfl
theorem wayV_ext {σ : Sg} {τ τ' : Nat → (Nat → Int32) → Int32} (h : ∀ p, p < 3 → ∀ F, τ' p F = τ p F) (π : List Nat) : wayV σ τ' π = wayV σ τ π := by
  unfold wayV
  rw [worthW_ext h]
theorem C_order {l : Launch} {X : XT} {d : Nat} {b : Int32} {m : Mem} {Ω : OM} (hd : 12 ≤ d) (hW : WO Ω) (hI : InvC m Ω) : Meth l X d M_X10_order [vR 11 0, vI b] m (fun r m' => r = some (vI (orderF Ω b)) ∧ FrC m m') := by
  obtain ⟨d, rfl⟩ : ∃ e, d = e + 1 := ⟨d - 1, by omega⟩
  have h2 := hW.1.2.2.1
  have hl6 : (oG Ω) 0 4 < 6 := hW.1.2.2.2.2.1
  obtain ⟨en, t1, t2⟩ := hI.law hW
  refine E_X10_order (ls := [vR 11 0, vI b]) rfl rfl ?_
  repeat refine AW.s rfl ?_
  try dsimp only [List.set_cons_zero, List.set_cons_succ, Option.toList_some, Option.toList_none, List.cons_append, List.nil_append]
  refine AW.S k_10_113 (c_isWithin) rfl rfl rfl rfl (fun r1 m9 hq => ?_)
  obtain ⟨rfl, hm9⟩ := hq
  rw [hm9]
  try dsimp only [List.set_cons_zero, List.set_cons_succ, Option.toList_some, Option.toList_none, List.cons_append, List.nil_append]
  by_cases q1 : wB b 1 = 1
  · have e0 : orderF Ω b = if b = 0 then (ordS Ω).2.1 else (ordS Ω).2.2 := if_pos q1
    rw [q1, e0]
    refine AW.b rfl (fun hc => ?_) (fun hc => ?_)
    · exact absurd hc (by decide)
    · repeat refine AW.s rfl ?_
      try dsimp only [List.set_cons_zero, List.set_cons_succ, Option.toList_some, Option.toList_none, List.cons_append, List.nil_append]
      refine AW.V k_10_231 ((c_law hI.1 hW.1)) rfl rfl rfl rfl rfl rfl (fun r1 m8 hq => ?_)
      obtain ⟨rfl, hm8⟩ := hq
      rw [hm8]
      repeat refine AW.s rfl ?_
      try dsimp only [List.set_cons_zero, List.set_cons_succ, Option.toList_some, Option.toList_none, List.cons_append, List.nil_append]
      refine AW.V k_10_234 ((c_search (T := 199 + 6 * (oG Ω) 0 4) (en := en) (by omega) hI.1 hW.1 (by omega) t1)) rfl rfl rfl rfl rfl rfl (fun r1 m7 hq => ?_)
      obtain ⟨rfl, hk, fr⟩ := hq
      have hk2 : kbOf m7 = ordS Ω := by
        rw [hk]
        unfold ordS
        rw [kb_st (fun e => cmpW_ne _ (by omega) (List.map_eq_nil_iff.mp e)), List.map_congr_left (fun π _ => wayV_ext t2 π)]
      have f1 : FrC m m7 := fun a ha => fr a (by omega) (by omega)
      repeat refine AW.s rfl ?_
      try dsimp only [List.set_cons_zero, List.set_cons_succ, Option.toList_some, Option.toList_none, List.cons_append, List.nil_append]
      refine AW.b rfl (fun hc => ?_) (fun hc => ?_)
      · rw [if_pos hc]
        repeat refine AW.s rfl ?_
        try dsimp only [List.set_cons_zero, List.set_cons_succ, Option.toList_some, Option.toList_none, List.cons_append, List.nil_append]
        exact AW.ri rfl rfl rfl ⟨by rw [← hk2]; rfl, f1⟩
      · rw [if_neg hc]
        repeat refine AW.s rfl ?_
        try dsimp only [List.set_cons_zero, List.set_cons_succ, Option.toList_some, Option.toList_none, List.cons_append, List.nil_append]
        exact AW.ri rfl rfl rfl ⟨by rw [← hk2]; rfl, f1⟩
  · have e0 : orderF Ω b = -100000 := if_neg q1
    rw [wB_0 q1, e0]
    refine AW.b rfl (fun hc => ?_) (fun hc => ?_)
    · repeat refine AW.s rfl ?_
      try dsimp only [List.set_cons_zero, List.set_cons_succ, Option.toList_some, Option.toList_none, List.cons_append, List.nil_append]
      exact AW.ri rfl rfl rfl ⟨rfl, FrC.rf⟩
    · exact absurd rfl hc
/-- best letter and worth then, of the first i -/
def ltS (Ω : OM) (r i : Nat) : Int32 × Int32 := match i with
  | 0 => (-1, 0)
  | i + 1 => if (ltS Ω r i).1 = -1 then (nI i, wthO (uG Ω (sU (oG Ω) 4 r i)) ((oG Ω) 0 4) (rowL (oG Ω))) else if (ltS Ω r i).2 < wthO (uG Ω (sU (oG Ω) 4 r i)) ((oG Ω) 0 4) (rowL (oG Ω)) then (nI i, wthO (uG Ω (sU (oG Ω) 4 r i)) ((oG Ω) 0 4) (rowL (oG Ω))) else ltS Ω r i
theorem ltS_s (Ω : OM) (r i : Nat) : ltS Ω r (i + 1) = if (ltS Ω r i).1 = -1 then (nI i, wthO (uG Ω (sU (oG Ω) 4 r i)) ((oG Ω) 0 4) (rowL (oG Ω))) else if (ltS Ω r i).2 < wthO (uG Ω (sU (oG Ω) 4 r i)) ((oG Ω) 0 4) (rowL (oG Ω)) then (nI i, wthO (uG Ω (sU (oG Ω) 4 r i)) ((oG Ω) 0 4) (rowL (oG Ω))) else ltS Ω r i := by rw [ltS]
def letterF (Ω : OM) (a b : Int32) : Int32 := if wB b 1 = 1 then (if hB a ((oG Ω) 0 2) = 1 then (if b = 0 then (ltS Ω a.toNatClampNeg 26).1 else (ltS Ω a.toNatClampNeg 26).2) else -100000) else -100000
theorem sU_o {σ : Sg} {a k v b j : Nat} (h : b ≠ a) : sU σ a k v b j = σ b j := by unfold sU; rw [if_neg (fun q => h q.1)]
theorem sU_t {σ : Sg} {a k v : Nat} : sU σ a k v a k = v := by unfold sU; rw [if_pos ⟨rfl, rfl⟩]
theorem rowL_o {σ : Sg} {a k v : Nat} (h0 : a ≠ 0) (h6 : a ≠ 6) : rowL (sU σ a k v) = rowL σ := by
  unfold rowL
  rw [sU_o (Ne.symm h0)]
  exact List.map_congr_left (fun i _ => sU_o (Ne.symm h6))
theorem WF.u4 {σ : Sg} {r c : Nat} (h : WF σ) (hc : c < 26) : WF (sU σ 4 r c) := by
  obtain ⟨a1, a2, a3, a4, a5, a6, a7, a8⟩ := h
  have e : ∀ b j, b ≠ 4 → sU σ 4 r c b j = σ b j := fun b j hb => sU_o hb
  refine ⟨by rw [e 0 0 (by decide)]; exact a1, by rw [e 0 1 (by decide)]; exact a2, by rw [e 0 2 (by decide)]; exact a3, by rw [e 0 3 (by decide)]; exact a4, by rw [e 0 4 (by decide)]; exact a5, fun w hw => ?_, fun q hq => ?_, fun i hi => ?_⟩
  · rw [e 0 1 (by decide)] at hw
    rw [e 1 w (by decide), e 2 w (by decide)]
    obtain ⟨b1, b2, b3, b4⟩ := a6 w hw
    exact ⟨b1, b2, b3, fun k hk => by rw [e (10 + w) k (by omega)]; exact b4 k hk⟩
  · rw [e 0 2 (by decide)] at hq
    rw [e 3 q (by decide), e 5 q (by decide)]
    obtain ⟨b1, b2, b3⟩ := a7 q hq
    refine ⟨b1, ?_, b3⟩
    by_cases z : q = r
    · subst z; rw [sU_t]; exact hc
    · rw [sU_n (Or.inr z)]; exact b2
  · rw [e 0 3 (by decide)] at hi
    rw [e 6 i (by decide), e 0 2 (by decide)]
    exact a8 i hi
theorem WO.g {Ω : OM} {σ : Sg} (h : WO Ω) (hσ : WF σ) (h4 : σ 0 4 < oQ Ω) (h2 : oK Ω = true → (oX Ω) 0 2 ≤ σ 0 2 ∧ ∀ r, r < (oX Ω) 0 2 → (oX Ω) 3 r = σ 3 r) : WO (uG Ω σ) := by
  obtain ⟨a1, a2, a3, a4⟩ := h
  exact ⟨hσ, fun k => ⟨(a2 k).1, (h2 k).1, (h2 k).2, (a2 k).2.2.2⟩, h4, a4⟩
theorem WO.u4 {Ω : OM} {r c : Nat} (h : WO Ω) (hc : c < 26) : WO (uG Ω (sU (oG Ω) 4 r c)) :=
  h.g (h.1.u4 hc) (by rw [sU_o (by decide)]; exact h.2.2.1) (fun k => ⟨by rw [sU_o (by decide)]; exact (h.2.1 k).2.1, fun q hq => by rw [sU_o (by decide)]; exact (h.2.1 k).2.2.1 q hq⟩)
theorem C_letter {l : Launch} {X : XT} {d : Nat} {a b : Int32} {m : Mem} {Ω : OM} (hd : 7 ≤ d) (hW : WO Ω) (hI : InvC m Ω) : Meth l X d M_X10_letter [vR 11 0, vI a, vI b] m (fun r m' => r = some (vI (letterF Ω a b)) ∧ FrC m m') := by
  obtain ⟨d, rfl⟩ : ∃ e, d = e + 1 := ⟨d - 1, by omega⟩
  have h2 := hW.1.2.2.1
  refine E_X10_letter (ls := [vR 11 0, vI a, vI b, vU, vU, vU, vU, vU]) rfl rfl ?_
  repeat refine AW.s rfl ?_
  try dsimp only [List.set_cons_zero, List.set_cons_succ, Option.toList_some, Option.toList_none, List.cons_append, List.nil_append]
  refine AW.S k_10_113 (c_isWithin) rfl rfl rfl rfl (fun r1 m9 hq => ?_)
  obtain ⟨rfl, hm9⟩ := hq
  rw [hm9]
  try dsimp only [List.set_cons_zero, List.set_cons_succ, Option.toList_some, Option.toList_none, List.cons_append, List.nil_append]
  by_cases q1 : wB b 1 = 1
  · rw [q1]
    refine AW.b rfl (fun hc => ?_) (fun hc => ?_)
    · exact absurd hc (by decide)
    · repeat refine AW.s rfl ?_
      try dsimp only [List.set_cons_zero, List.set_cons_succ, Option.toList_some, Option.toList_none, List.cons_append, List.nil_append]
      refine AW.V k_10_142 ((c_hasRule hI.1)) rfl rfl rfl rfl rfl rfl (fun r1 m8 hq => ?_)
      obtain ⟨rfl, hm8⟩ := hq
      rw [hm8]
      try dsimp only [List.set_cons_zero, List.set_cons_succ, Option.toList_some, Option.toList_none, List.cons_append, List.nil_append]
      by_cases q2 : hB a ((oG Ω) 0 2) = 1
      · rw [q2]
        obtain ⟨r, hr, rfl⟩ := (hB_1 (by omega)).mp q2
        have e0 : letterF Ω (nI r) b = if b = 0 then (ltS Ω r 26).1 else (ltS Ω r 26).2 := by unfold letterF; rw [if_pos q1, if_pos q2, nI_clamp (by omega)]
        rw [e0]
        refine AW.b rfl (fun hc => ?_) (fun hc => ?_)
        · exact absurd hc (by decide)
        · repeat refine AW.s rfl ?_
          try dsimp only [List.set_cons_zero, List.set_cons_succ, Option.toList_some, Option.toList_none, List.cons_append, List.nil_append]
          refine AW.c rfl (vp_in_nI (by omega) (by decide)) ?_
          try dsimp only [List.set_cons_zero, List.set_cons_succ, Option.toList_some, Option.toList_none, List.cons_append, List.nil_append]
          rw [nI_clamp (by omega)]
          repeat refine AW.u 41 rfl rfl ?_
          try dsimp only [List.set_cons_zero, List.set_cons_succ, Option.toList_some, Option.toList_none, List.cons_append, List.nil_append]
          refine AW.loop (pc := 41) (σ := Unit) 26 (fun i _ => [vR 11 0, vI (nI r), vI b, vI (m (0 + 1 + 13) r), vI (ltS Ω r i).1, vI (ltS Ω r i).2, vI (nI i), vU]) (fun i _ m1 => ∃ c, FrC (mUp m 14 r c) m1) (fun i _ m1 hi hm1 ih => ?_) 0 () m (Nat.zero_le _) ⟨m 14 r, fun a _ => by
            by_cases e : a = 14
            · subst e
              funext k
              by_cases e2 : k = r
              · subst e2; exact (mUp_s _ _ _ _).symm
              · exact (mUp_n (Or.inr e2)).symm
            · exact (mUp_a e).symm⟩
          obtain ⟨c0, hf⟩ := hm1
          repeat refine AW.s rfl ?_
          try dsimp only [List.set_cons_zero, List.set_cons_succ, Option.toList_some, Option.toList_none, List.cons_append, List.nil_append]
          refine AW.b rfl (fun hc => ?_) (fun hc => ?_)
          · have hlt : i < 26 := (nI_ltI (b := 26) (by omega) (by decide)).mp hc
            repeat refine AW.s rfl ?_
            try dsimp only [List.set_cons_zero, List.set_cons_succ, Option.toList_some, Option.toList_none, List.cons_append, List.nil_append]
            refine AW.c rfl (⟨vp_in_nI (by omega) (by decide), fun z => absurd z (by decide)⟩) ?_
            try dsimp only [List.set_cons_zero, List.set_cons_succ, Option.toList_some, Option.toList_none, List.cons_append, List.nil_append]
            rw [nI_clamp (by omega)]
            have f1 : FrC (mUp m 14 r (nI i)) (mUp m1 (0 + 1 + 13) r (nI i)) := by
              intro a ha
              by_cases e : a = 14
              · subst e
                funext k
                by_cases e2 : k = r
                · subst e2; rw [mUp_s, mUp_s]
                · rw [mUp_n (Or.inr e2), mUp_n (Or.inr e2), congrFun (hf 14 (by omega)) k, mUp_n (Or.inr e2)]
              · rw [mUp_a e, mUp_a e, hf a ha, mUp_a e]
            have hIa : InvC (mUp m 14 r (nI i)) (uG Ω (sU (oG Ω) 4 r i)) := hI.g hW (hI.1.u4 hW.1.2.1) (fun a ha => mUp_a (by omega))
            have hWa := hW.u4 (r := r) hlt
            have hIb := hIa.fr hWa f1
            have hro : rowL (oG (uG Ω (sU (oG Ω) 4 r i))) = rowL (oG Ω) := rowL_o (by decide) (by decide)
            have hlw : (oG (uG Ω (sU (oG Ω) 4 r i))) 0 4 = (oG Ω) 0 4 := show sU (oG Ω) 4 r i 0 4 = _ from sU_o (by decide)
            repeat refine AW.s rfl ?_
            try dsimp only [List.set_cons_zero, List.set_cons_succ, Option.toList_some, Option.toList_none, List.cons_append, List.nil_append]
            refine AW.V k_10_206 ((C_worthBy (ρ := 16) (by omega) hWa hIb (rowL_wf hWa.1) hIb.1.row (by omega) (by omega))) rfl rfl rfl rfl rfl rfl (fun r1 m7 hq => ?_)
            obtain ⟨rfl, f3⟩ := hq
            rw [hro, hlw]
            have es := ltS_s Ω r i
            have ff : ∃ c, FrC (mUp m 14 r c) m7 := ⟨_, f1.tr f3⟩
            repeat refine AW.s rfl ?_
            try dsimp only [List.set_cons_zero, List.set_cons_succ, Option.toList_some, Option.toList_none, List.cons_append, List.nil_append]
            refine AW.b rfl (fun hc => ?_) (fun hc => ?_)
            · have q3 := hc
              rw [if_pos q3] at es
              repeat refine AW.u 41 rfl rfl ?_
              try dsimp only [List.set_cons_zero, List.set_cons_succ, Option.toList_some, Option.toList_none, List.cons_append, List.nil_append]
              refine AW.fg 7 ?_
              try dsimp only [List.set_cons_zero, List.set_cons_succ, Option.toList_some, Option.toList_none, List.cons_append, List.nil_append]
              have ih := ih () m7 hlt ff
              rw [es] at ih
              rw [nI_1]
              exact ih
            · have q3 := hc
              rw [if_neg q3] at es
              repeat refine AW.s rfl ?_
              try dsimp only [List.set_cons_zero, List.set_cons_succ, Option.toList_some, Option.toList_none, List.cons_append, List.nil_append]
              refine AW.b rfl (fun hc => ?_) (fun hc => ?_)
              · have q4 := hc
                rw [if_pos q4] at es
                repeat refine AW.u 41 rfl rfl ?_
                try dsimp only [List.set_cons_zero, List.set_cons_succ, Option.toList_some, Option.toList_none, List.cons_append, List.nil_append]
                refine AW.fg 7 ?_
                try dsimp only [List.set_cons_zero, List.set_cons_succ, Option.toList_some, Option.toList_none, List.cons_append, List.nil_append]
                have ih := ih () m7 hlt ff
                rw [es] at ih
                rw [nI_1]
                exact ih
              · have q4 := hc
                rw [if_neg q4] at es
                repeat refine AW.u 41 rfl rfl ?_
                try dsimp only [List.set_cons_zero, List.set_cons_succ, Option.toList_some, Option.toList_none, List.cons_append, List.nil_append]
                refine AW.fg 7 ?_
                try dsimp only [List.set_cons_zero, List.set_cons_succ, Option.toList_some, Option.toList_none, List.cons_append, List.nil_append]
                have ih := ih () m7 hlt ff
                rw [es] at ih
                rw [nI_1]
                exact ih
          · have : i = 26 := by
              have : ¬ i < 26 := fun q => hc (nI_lt (b := 26) q (by decide))
              omega
            subst this
            repeat refine AW.s rfl ?_
            try dsimp only [List.set_cons_zero, List.set_cons_succ, Option.toList_some, Option.toList_none, List.cons_append, List.nil_append]
            refine AW.c rfl (⟨vp_in_nI (by omega) (by decide), fun z => absurd z (by decide)⟩) ?_
            try dsimp only [List.set_cons_zero, List.set_cons_succ, Option.toList_some, Option.toList_none, List.cons_append, List.nil_append]
            rw [nI_clamp (by omega)]
            have f9 : FrC m (mUp m1 (0 + 1 + 13) r (m (0 + 1 + 13) r)) := by
              intro a ha
              by_cases e : a = 14
              · subst e
                funext k
                by_cases e2 : k = r
                · subst e2; exact mUp_s _ _ _ _
                · rw [mUp_n (Or.inr e2), congrFun (hf 14 (by omega)) k, mUp_n (Or.inr e2)]
              · rw [mUp_a e, hf a ha, mUp_a e]
            repeat refine AW.s rfl ?_
            try dsimp only [List.set_cons_zero, List.set_cons_succ, Option.toList_some, Option.toList_none, List.cons_append, List.nil_append]
            refine AW.b rfl (fun hc => ?_) (fun hc => ?_)
            · rw [if_pos hc]
              repeat refine AW.s rfl ?_
              try dsimp only [List.set_cons_zero, List.set_cons_succ, Option.toList_some, Option.toList_none, List.cons_append, List.nil_append]
              exact AW.ri rfl rfl rfl ⟨rfl, f9⟩
            · rw [if_neg hc]
              repeat refine AW.s rfl ?_
              try dsimp only [List.set_cons_zero, List.set_cons_succ, Option.toList_some, Option.toList_none, List.cons_append, List.nil_append]
              exact AW.ri rfl rfl rfl ⟨rfl, f9⟩
      · have e0 : letterF Ω a b = -100000 := by unfold letterF; rw [if_pos q1, if_neg q2]
        rw [hB_0 q2, e0]
        refine AW.b rfl (fun hc => ?_) (fun hc => ?_)
        · repeat refine AW.s rfl ?_
          try dsimp only [List.set_cons_zero, List.set_cons_succ, Option.toList_some, Option.toList_none, List.cons_append, List.nil_append]
          exact AW.ri rfl rfl rfl ⟨rfl, FrC.rf⟩
        · exact absurd rfl hc
  · have e0 : letterF Ω a b = -100000 := if_neg q1
    rw [wB_0 q1, e0]
    refine AW.b rfl (fun hc => ?_) (fun hc => ?_)
    · repeat refine AW.s rfl ?_
      try dsimp only [List.set_cons_zero, List.set_cons_succ, Option.toList_some, Option.toList_none, List.cons_append, List.nil_append]
      exact AW.ri rfl rfl rfl ⟨rfl, FrC.rf⟩
    · exact absurd rfl hc
