-- ===== set, told, feed, force, said, turned, of, all =====
theorem anyI (x : Int32) : ∃ n, x = nI n := ⟨x.toBitVec.toNat, by
  apply Int32.toBitVec_inj.1
  show x.toBitVec = BitVec.ofNat 32 x.toBitVec.toNat
  simp⟩
theorem hpB_1 {σ : Sg} {t i : Int32} (hσ : WF σ) (h : hpB σ t i = 1) : ∃ t' i', t = nI t' ∧ t' < 5 ∧ i = nI i' ∧ ptOK σ t' i' ∧ (t' ≠ 0 → i' = i.toNatClampNeg) := by
  have h1 := hσ.2.1
  have h2 := hσ.2.2.1
  have h3 := hσ.2.2.2.1
  unfold hpB at h
  by_cases e0 : t = 0
  · obtain ⟨n, rfl⟩ := anyI i
    exact ⟨0, n, e0, by decide, rfl, Or.inl rfl, fun q => absurd rfl q⟩
  · rw [if_neg e0] at h
    by_cases e1 : t = 1
    · rw [if_pos e1] at h
      obtain ⟨j, hj, rfl⟩ := (hB_1 (by omega)).mp h
      exact ⟨1, j, e1, by decide, rfl, Or.inr (Or.inl ⟨rfl, hj⟩), fun _ => (nI_clamp (by omega)).symm⟩
    · rw [if_neg e1] at h
      by_cases e2 : t = 2 ∨ t = 3
      · rw [if_pos e2] at h
        obtain ⟨j, hj, rfl⟩ := (hB_1 (by omega)).mp h
        rcases e2 with e2 | e2
        · exact ⟨2, j, e2, by decide, rfl, Or.inr (Or.inr (Or.inl ⟨rfl, hj⟩)), fun _ => (nI_clamp (by omega)).symm⟩
        · exact ⟨3, j, e2, by decide, rfl, Or.inr (Or.inr (Or.inr (Or.inl ⟨rfl, hj⟩))), fun _ => (nI_clamp (by omega)).symm⟩
      · rw [if_neg e2] at h
        by_cases e4 : t = 4
        · rw [if_pos e4] at h
          obtain ⟨j, hj, rfl⟩ := (hB_1 (by omega)).mp h
          exact ⟨4, j, e4, by decide, rfl, Or.inr (Or.inr (Or.inr (Or.inr ⟨rfl, hj⟩))), fun _ => (nI_clamp (by omega)).symm⟩
        · rw [if_neg e4] at h
          exact absurd h (by decide)
theorem hpB_01 (σ : Sg) (t i : Int32) : hpB σ t i = 0 ∨ hpB σ t i = 1 := by
  have hb : ∀ v n, hB v n = 0 ∨ hB v n = 1 := fun v n => by
    by_cases q : hB v n = 1
    · exact Or.inr q
    · exact Or.inl (hB_0 q)
  unfold hpB
  split
  · exact Or.inr rfl
  · split
    · exact hb _ _
    · split
      · exact hb _ _
      · split
        · exact hb _ _
        · exact Or.inl rfl
theorem chB_01 (σ : Sg) (t v : Int32) : chB σ t v = 0 ∨ chB σ t v = 1 := by
  unfold chB
  split
  · split
    · exact Or.inl rfl
    · split
      · exact Or.inr rfl
      · exact Or.inl rfl
  · split
    · exact wB_01 _ _
    · split
      · by_cases q : hB v (σ 0 2) = 1
        · exact Or.inr q
        · exact Or.inl (hB_0 q)
      · exact wB_01 _ _
/-- what v is, where it can be held -/
theorem chB_1 {σ : Sg} {t v : Int32} (hσ : WF σ) (h : chB σ t v = 1) : ∃ n, v = nI n ∧ n < 2 ^ 26 ∧ v.toNatClampNeg = n ∧ (t = 1 → n ≤ 99) ∧ (t = 4 → n < σ 0 2) ∧ (t ≠ 0 → t ≠ 1 → t ≠ 4 → n < 26) := by
  have h2 := hσ.2.2.1
  unfold chB at h
  by_cases e0 : t = 0
  · rw [if_pos e0] at h
    by_cases e1 : v < 0
    · rw [if_pos e1] at h; exact absurd h (by decide)
    · rw [if_neg e1] at h
      obtain ⟨j, hj, rfl⟩ := nI_of e1
      by_cases e2 : nI j < 67108864
      · have : j < 67108864 := (nI_ltI (b := 67108864) hj (by decide)).mp e2
        exact ⟨j, rfl, by omega, nI_clamp (by omega), fun q => (by rw [e0] at q; cases q), fun q => (by rw [e0] at q; cases q), fun q => absurd e0 q⟩
      · rw [if_neg e2] at h; exact absurd h (by decide)
  · rw [if_neg e0] at h
    by_cases e1 : t = 1
    · rw [if_pos e1] at h
      obtain ⟨j, hj, rfl⟩ := (wB_1 (n := 99) (by decide)).mp h
      exact ⟨j, rfl, by omega, nI_clamp (by omega), fun _ => hj, fun q => (by rw [e1] at q; cases q), fun _ q => absurd e1 q⟩
    · rw [if_neg e1] at h
      by_cases e4 : t = 4
      · rw [if_pos e4] at h
        obtain ⟨j, hj, rfl⟩ := (hB_1 (by omega)).mp h
        exact ⟨j, rfl, by omega, nI_clamp (by omega), fun q => absurd q e1, fun _ => hj, fun _ _ q => absurd e4 q⟩
      · rw [if_neg e4] at h
        obtain ⟨j, hj, rfl⟩ := (wB_1 (n := 25) (by decide)).mp h
        exact ⟨j, rfl, by omega, nI_clamp (by omega), fun q => absurd q e1, fun q => absurd q e4, fun _ _ _ => by omega⟩
def setF (Ω : OM) (t i v : Int32) : Int32 × OM :=
  if hpB (oG Ω) t i = 1 ∧ chB (oG Ω) t v = 1 then (nI (ptN (oG Ω) t.toNatClampNeg i.toNatClampNeg), uG Ω (chgS (oG Ω) t.toNatClampNeg i.toNatClampNeg v.toNatClampNeg)) else (-100, Ω)
theorem ptN_i {σ : Sg} {t i j : Nat} (h : t ≠ 0 → i = j) : ptN σ t i = ptN σ t j := by
  by_cases e : t = 0
  · subst e; rfl
  · rw [h e]
theorem chgS_i {σ : Sg} {t i j v : Nat} (h : t ≠ 0 → i = j) : chgS σ t i v = chgS σ t j v := by
  by_cases e : t = 0
  · subst e; rfl
  · rw [h e]
theorem C_set {l : Launch} {X : XT} {d : Nat} {a b c : Int32} {m : Mem} {Ω : OM} (hd : 5 ≤ d) (hW : WO Ω) (hI : InvC m Ω) : Meth l X d M_X10_set [vR 11 0, vI a, vI b, vI c] m (fun r m' => r = some (vI (setF Ω a b c).1) ∧ InvC m' (setF Ω a b c).2 ∧ KC m m') := by
  obtain ⟨d, rfl⟩ : ∃ e, d = e + 1 := ⟨d - 1, by omega⟩
  refine E_X10_set (ls := [vR 11 0, vI a, vI b, vI c, vU]) rfl rfl ?_
  repeat refine AW.s rfl ?_
  try dsimp only [List.set_cons_zero, List.set_cons_succ, Option.toList_some, Option.toList_none, List.cons_append, List.nil_append]
  refine AW.V k_10_152 ((c_hasPart (by omega) hI.1)) rfl rfl rfl rfl rfl rfl (fun r1 m9 hq => ?_)
  obtain ⟨rfl, hm9⟩ := hq
  rw [hm9]
  try dsimp only [List.set_cons_zero, List.set_cons_succ, Option.toList_some, Option.toList_none, List.cons_append, List.nil_append]
  rcases hpB_01 (oG Ω) a b with q1 | q1
  · rw [q1]
    have e0 : setF Ω a b c = (-100, Ω) := if_neg (fun q => by rw [q1] at q; exact absurd q.1 (by decide))
    rw [e0]
    refine AW.b rfl (fun hc => ?_) (fun hc => ?_)
    · repeat refine AW.s rfl ?_
      try dsimp only [List.set_cons_zero, List.set_cons_succ, Option.toList_some, Option.toList_none, List.cons_append, List.nil_append]
      exact AW.ri rfl rfl rfl ⟨rfl, hI, KC.rf⟩
    · exact absurd rfl hc
  · have q1' := q1
    rw [q1]
    refine AW.b rfl (fun hc => ?_) (fun hc => ?_)
    · exact absurd hc (by decide)
    · repeat refine AW.s rfl ?_
      try dsimp only [List.set_cons_zero, List.set_cons_succ, Option.toList_some, Option.toList_none, List.cons_append, List.nil_append]
      refine AW.V k_10_155 ((c_canHold (by omega) hI.1)) rfl rfl rfl rfl rfl rfl (fun r1 m8 hq => ?_)
      obtain ⟨rfl, hm8⟩ := hq
      rw [hm8]
      try dsimp only [List.set_cons_zero, List.set_cons_succ, Option.toList_some, Option.toList_none, List.cons_append, List.nil_append]
      rcases chB_01 (oG Ω) a c with q2 | q2
      · rw [q2]
        have e0 : setF Ω a b c = (-100, Ω) := if_neg (fun q => by rw [q2] at q; exact absurd q.2 (by decide))
        rw [e0]
        refine AW.b rfl (fun hc => ?_) (fun hc => ?_)
        · repeat refine AW.s rfl ?_
          try dsimp only [List.set_cons_zero, List.set_cons_succ, Option.toList_some, Option.toList_none, List.cons_append, List.nil_append]
          exact AW.ri rfl rfl rfl ⟨rfl, hI, KC.rf⟩
        · exact absurd rfl hc
      · have q2' := q2
        rw [q2]
        have e0 : setF Ω a b c = (nI (ptN (oG Ω) a.toNatClampNeg b.toNatClampNeg), uG Ω (chgS (oG Ω) a.toNatClampNeg b.toNatClampNeg c.toNatClampNeg)) := if_pos ⟨q1', q2'⟩
        obtain ⟨t, i, rfl, ht, rfl, hok, hi⟩ := hpB_1 hW.1 q1'
        obtain ⟨n, rfl, hn, hcl, -⟩ := chB_1 hW.1 q2'
        rw [e0, hcl, nI_clamp (show t < 2 ^ 31 by omega), ← ptN_i (σ := oG Ω) hi, ← chgS_i (σ := oG Ω) (v := n) hi]
        refine AW.b rfl (fun hc => ?_) (fun hc => ?_)
        · exact absurd hc (by decide)
        · repeat refine AW.s rfl ?_
          try dsimp only [List.set_cons_zero, List.set_cons_succ, Option.toList_some, Option.toList_none, List.cons_append, List.nil_append]
          refine AW.V k_10_158 ((c_part hI.1 hW.1 hok)) rfl rfl rfl rfl rfl rfl (fun r1 m7 hq => ?_)
          obtain ⟨rfl, hm7⟩ := hq
          rw [hm7]
          repeat refine AW.s rfl ?_
          try dsimp only [List.set_cons_zero, List.set_cons_succ, Option.toList_some, Option.toList_none, List.cons_append, List.nil_append]
          refine AW.V k_10_162 ((c_change (v := n) hI.1 hW.1 hok)) rfl rfl rfl rfl rfl rfl (fun r1 m6 hq => ?_)
          obtain ⟨rfl, p1, p2⟩ := hq
          repeat refine AW.s rfl ?_
          try dsimp only [List.set_cons_zero, List.set_cons_succ, Option.toList_some, Option.toList_none, List.cons_append, List.nil_append]
          exact AW.ri rfl rfl rfl ⟨rfl, hI.g hW p1 p2, fun a ha => p2 a (by omega)⟩
def toldX (Ω : OM) (a b : Int32) : Int32 :=
  if b = 5 then (if hB a ((oG Ω) 0 2) = 1 then nI ((oG Ω) 3 a.toNatClampNeg) else -100) else if b = 6 then (if hB a ((oG Ω) 0 1) = 1 then nI ((oG Ω) 1 a.toNatClampNeg) else -100) else if hpB (oG Ω) b a = 1 then nI (ptN (oG Ω) b.toNatClampNeg a.toNatClampNeg) else -100
def toldF (Ω : OM) (a b : Int32) : Int32 :=
  if b < 10 then toldX Ω a b else if b < 20 then (if hB a ((oG Ω) 0 1) = 1 then (if b.toNatClampNeg - 10 < (oG Ω) 1 a.toNatClampNeg then nI ((oG Ω) (10 + a.toNatClampNeg) (b.toNatClampNeg - 10)) else -1) else -100) else toldX Ω a b
theorem look2 {x : Int32} {a b d p q : Int} (h1 : x.toInt ≠ a) (h2 : x.toInt ≠ b) : Op.lookupswitch.offset [(a, p), (b, q)] d x.toInt = d := by
  simp [Op.lookupswitch.offset, h1, h2, Ne.symm h1, Ne.symm h2]
theorem i32_ne {x : Int32} {n : Nat} (hn : n < 2 ^ 31) (h : ¬ x = nI n) : x.toInt ≠ (n : Int) := by
  intro e
  apply h
  apply Int32.toInt_inj.1
  rw [e, nI_toInt hn]
theorem C_told {l : Launch} {X : XT} {d : Nat} {a b : Int32} {m : Mem} {Ω : OM} (hd : 5 ≤ d) (hW : WO Ω) (hI : InvC m Ω) : Meth l X d M_X10_told [vR 11 0, vI a, vI b] m (fun r m' => r = some (vI (toldF Ω a b)) ∧ m' = m) := by
  obtain ⟨d, rfl⟩ : ∃ e, d = e + 1 := ⟨d - 1, by omega⟩
  have h1 := hW.1.2.1
  have h2 := hW.1.2.2.1
  have key : AW (GM l X (d + 1) M_X10_told (fun r m' => r = some (vI (toldX Ω a b)) ∧ m' = m)) 41 [vR 11 0, vI a, vI b] [] m := by
    repeat refine AW.s rfl ?_
    try dsimp only [List.set_cons_zero, List.set_cons_succ, Option.toList_some, Option.toList_none, List.cons_append, List.nil_append]
    by_cases q5 : b = 5
    · subst q5
      refine AW.look (tgt := 68) (off := 26) rfl (by decide) (by decide) (by decide) ?_
      have e0 : toldX Ω a 5 = if hB a ((oG Ω) 0 2) = 1 then nI ((oG Ω) 3 a.toNatClampNeg) else -100 := if_pos rfl
      rw [e0]
      repeat refine AW.s rfl ?_
      try dsimp only [List.set_cons_zero, List.set_cons_succ, Option.toList_some, Option.toList_none, List.cons_append, List.nil_append]
      refine AW.V k_10_142 ((c_hasRule hI.1)) rfl rfl rfl rfl rfl rfl (fun r1 m9 hq => ?_)
      obtain ⟨rfl, hm9⟩ := hq
      rw [hm9]
      try dsimp only [List.set_cons_zero, List.set_cons_succ, Option.toList_some, Option.toList_none, List.cons_append, List.nil_append]
      by_cases q1 : hB a ((oG Ω) 0 2) = 1
      · rw [q1, if_pos rfl]
        obtain ⟨r, hr, rfl⟩ := (hB_1 (by omega)).mp q1
        refine AW.b rfl (fun hc => ?_) (fun hc => ?_)
        · exact absurd hc (by decide)
        · repeat refine AW.s rfl ?_
          try dsimp only [List.set_cons_zero, List.set_cons_succ, Option.toList_some, Option.toList_none, List.cons_append, List.nil_append]
          refine AW.c rfl (vp_in_nI (by omega) (by decide)) ?_
          try dsimp only [List.set_cons_zero, List.set_cons_succ, Option.toList_some, Option.toList_none, List.cons_append, List.nil_append]
          rw [nI_clamp (by omega), show m (0 + 1 + 12) r = nI ((oG Ω) 3 r) from (hI.1.2.2.2.2.2.1 r hr).1]
          repeat refine AW.s rfl ?_
          try dsimp only [List.set_cons_zero, List.set_cons_succ, Option.toList_some, Option.toList_none, List.cons_append, List.nil_append]
          exact AW.ri rfl rfl rfl ⟨rfl, rfl⟩
      · rw [hB_0 q1, if_neg (by decide)]
        refine AW.b rfl (fun hc => ?_) (fun hc => ?_)
        · repeat refine AW.s rfl ?_
          try dsimp only [List.set_cons_zero, List.set_cons_succ, Option.toList_some, Option.toList_none, List.cons_append, List.nil_append]
          exact AW.ri rfl rfl rfl ⟨rfl, rfl⟩
        · exact absurd rfl hc
    · by_cases q6 : b = 6
      · subst q6
        refine AW.look (tgt := 94) (off := 52) rfl (by decide) (by decide) (by decide) ?_
        have e0 : toldX Ω a 6 = if hB a ((oG Ω) 0 1) = 1 then nI ((oG Ω) 1 a.toNatClampNeg) else -100 := by unfold toldX; rw [if_neg (by decide), if_pos rfl]
        rw [e0]
        repeat refine AW.s rfl ?_
        try dsimp only [List.set_cons_zero, List.set_cons_succ, Option.toList_some, Option.toList_none, List.cons_append, List.nil_append]
        refine AW.V k_10_166 ((c_hasWord hI.1)) rfl rfl rfl rfl rfl rfl (fun r1 m9 hq => ?_)
        obtain ⟨rfl, hm9⟩ := hq
        rw [hm9]
        try dsimp only [List.set_cons_zero, List.set_cons_succ, Option.toList_some, Option.toList_none, List.cons_append, List.nil_append]
        by_cases q1 : hB a ((oG Ω) 0 1) = 1
        · rw [q1, if_pos rfl]
          obtain ⟨r, hr, rfl⟩ := (hB_1 (by omega)).mp q1
          refine AW.b rfl (fun hc => ?_) (fun hc => ?_)
          · exact absurd hc (by decide)
          · repeat refine AW.s rfl ?_
            try dsimp only [List.set_cons_zero, List.set_cons_succ, Option.toList_some, Option.toList_none, List.cons_append, List.nil_append]
            refine AW.c rfl (vp_in_nI (by omega) (by decide)) ?_
            try dsimp only [List.set_cons_zero, List.set_cons_succ, Option.toList_some, Option.toList_none, List.cons_append, List.nil_append]
            rw [nI_clamp (by omega), show m (0 + 1 + 10) r = nI ((oG Ω) 1 r) from (hI.1.2.2.2.2.1 r hr).1]
            repeat refine AW.s rfl ?_
            try dsimp only [List.set_cons_zero, List.set_cons_succ, Option.toList_some, Option.toList_none, List.cons_append, List.nil_append]
            exact AW.ri rfl rfl rfl ⟨rfl, rfl⟩
        · rw [hB_0 q1, if_neg (by decide)]
          refine AW.b rfl (fun hc => ?_) (fun hc => ?_)
          · repeat refine AW.s rfl ?_
            try dsimp only [List.set_cons_zero, List.set_cons_succ, Option.toList_some, Option.toList_none, List.cons_append, List.nil_append]
            exact AW.ri rfl rfl rfl ⟨rfl, rfl⟩
          · exact absurd rfl hc
      · refine AW.look (tgt := 120) rfl (by decide) (look2 (i32_ne (n := 5) (by decide) q5) (i32_ne (n := 6) (by decide) q6)) (by decide) ?_
        have e0 : toldX Ω a b = if hpB (oG Ω) b a = 1 then nI (ptN (oG Ω) b.toNatClampNeg a.toNatClampNeg) else -100 := by unfold toldX; rw [if_neg q5, if_neg q6]
        rw [e0]
        repeat refine AW.s rfl ?_
        try dsimp only [List.set_cons_zero, List.set_cons_succ, Option.toList_some, Option.toList_none, List.cons_append, List.nil_append]
        refine AW.V k_10_152 ((c_hasPart (by omega) hI.1)) rfl rfl rfl rfl rfl rfl (fun r1 m9 hq => ?_)
        obtain ⟨rfl, hm9⟩ := hq
        rw [hm9]
        try dsimp only [List.set_cons_zero, List.set_cons_succ, Option.toList_some, Option.toList_none, List.cons_append, List.nil_append]
        rcases hpB_01 (oG Ω) b a with q1 | q1
        · rw [q1, if_neg (by decide)]
          refine AW.b rfl (fun hc => ?_) (fun hc => ?_)
          · repeat refine AW.s rfl ?_
            try dsimp only [List.set_cons_zero, List.set_cons_succ, Option.toList_some, Option.toList_none, List.cons_append, List.nil_append]
            exact AW.ri rfl rfl rfl ⟨rfl, rfl⟩
          · exact absurd rfl hc
        · have q1' := q1
          rw [q1, if_pos rfl]
          obtain ⟨t, i, rfl, ht, rfl, hok, hi⟩ := hpB_1 hW.1 q1'
          rw [nI_clamp (show t < 2 ^ 31 by omega), ← ptN_i (σ := oG Ω) hi]
          refine AW.b rfl (fun hc => ?_) (fun hc => ?_)
          · exact absurd hc (by decide)
          · repeat refine AW.s rfl ?_
            try dsimp only [List.set_cons_zero, List.set_cons_succ, Option.toList_some, Option.toList_none, List.cons_append, List.nil_append]
            refine AW.V k_10_158 ((c_part hI.1 hW.1 hok)) rfl rfl rfl rfl rfl rfl (fun r1 m7 hq => ?_)
            obtain ⟨rfl, hm7⟩ := hq
            rw [hm7]
            repeat refine AW.s rfl ?_
            try dsimp only [List.set_cons_zero, List.set_cons_succ, Option.toList_some, Option.toList_none, List.cons_append, List.nil_append]
            exact AW.ri rfl rfl rfl ⟨rfl, rfl⟩
  refine E_X10_told (ls := [vR 11 0, vI a, vI b]) rfl rfl ?_
  repeat refine AW.s rfl ?_
  try dsimp only [List.set_cons_zero, List.set_cons_succ, Option.toList_some, Option.toList_none, List.cons_append, List.nil_append]
  refine AW.b rfl (fun hc => ?_) (fun hc => ?_)
  · have e0 : toldF Ω a b = toldX Ω a b := if_pos hc
    rw [e0]
    exact key
  · have q1 := hc
    repeat refine AW.s rfl ?_
    try dsimp only [List.set_cons_zero, List.set_cons_succ, Option.toList_some, Option.toList_none, List.cons_append, List.nil_append]
    refine AW.b rfl (fun hc => ?_) (fun hc => ?_)
    · have q2 := hc
      have e0 : toldF Ω a b = if hB a ((oG Ω) 0 1) = 1 then (if b.toNatClampNeg - 10 < (oG Ω) 1 a.toNatClampNeg then nI ((oG Ω) (10 + a.toNatClampNeg) (b.toNatClampNeg - 10)) else -1) else -100 := by
        unfold toldF; rw [if_neg q1, if_pos q2]
      rw [e0]
      repeat refine AW.s rfl ?_
      try dsimp only [List.set_cons_zero, List.set_cons_succ, Option.toList_some, Option.toList_none, List.cons_append, List.nil_append]
      refine AW.V k_10_166 ((c_hasWord hI.1)) rfl rfl rfl rfl rfl rfl (fun r1 m9 hq => ?_)
      obtain ⟨rfl, hm9⟩ := hq
      rw [hm9]
      try dsimp only [List.set_cons_zero, List.set_cons_succ, Option.toList_some, Option.toList_none, List.cons_append, List.nil_append]
      by_cases q3 : hB a ((oG Ω) 0 1) = 1
      · rw [q3, if_pos rfl]
        obtain ⟨w, hw, rfl⟩ := (hB_1 (by omega)).mp q3
        obtain ⟨j, hj, rfl⟩ : ∃ j, j < 2 ^ 31 ∧ b = nI j := nI_of (fun q => q1 (Int32.lt_trans q (by decide)))
        have hj10 : ¬ j < 10 := fun q => q1 (nI_lt (b := 10) q (by decide))
        have hj20 : j < 20 := (nI_ltI (b := 20) hj (by decide)).mp q2
        rw [nI_clamp (by omega), nI_clamp (by omega)]
        refine AW.b rfl (fun hc => ?_) (fun hc => ?_)
        · exact absurd hc (by decide)
        · repeat refine AW.s rfl ?_
          try dsimp only [List.set_cons_zero, List.set_cons_succ, Option.toList_some, Option.toList_none, List.cons_append, List.nil_append]
          rw [show nI j - 10 = nI (j - 10) from pk_sub (b := 10) (by omega)]
          refine AW.V k_10_169 ((c_letterOf (k := j - 10) hI.1 hW.1 hw (by omega))) rfl rfl rfl rfl rfl rfl (fun r1 m7 hq => ?_)
          obtain ⟨rfl, hm7⟩ := hq
          rw [hm7]
          repeat refine AW.s rfl ?_
          try dsimp only [List.set_cons_zero, List.set_cons_succ, Option.toList_some, Option.toList_none, List.cons_append, List.nil_append]
          exact AW.ri rfl rfl rfl ⟨rfl, rfl⟩
      · rw [hB_0 q3, if_neg (by decide)]
        refine AW.b rfl (fun hc => ?_) (fun hc => ?_)
        · repeat refine AW.s rfl ?_
          try dsimp only [List.set_cons_zero, List.set_cons_succ, Option.toList_some, Option.toList_none, List.cons_append, List.nil_append]
          exact AW.ri rfl rfl rfl ⟨rfl, rfl⟩
        · exact absurd rfl hc
    · have q2 := hc
      have e0 : toldF Ω a b = toldX Ω a b := by unfold toldF; rw [if_neg q1, if_neg q2]
      rw [e0]
      exact key
def feedF (Ω : OM) (a : Int32) : Int32 × OM :=
  if wB a 255 = 1 then (if oN Ω = 160 then (-4, Ω) else (nI (oN Ω + 1), uT Ω (oN Ω + 1) (upd (oB Ω) (oN Ω) a))) else (-2, Ω)
theorem C_feed {l : Launch} {X : XT} {d : Nat} {a : Int32} {m : Mem} {Ω : OM} (hd : 5 ≤ d) (hW : WO Ω) (hI : InvC m Ω) : Meth l X d M_X10_feed [vR 11 0, vI a] m (fun r m' => r = some (vI (feedF Ω a).1) ∧ InvC m' (feedF Ω a).2 ∧ KC m m') := by
  obtain ⟨d, rfl⟩ : ∃ e, d = e + 1 := ⟨d - 1, by omega⟩
  have hN := hW.2.2.2.2.1
  refine E_X10_feed (ls := [vR 11 0, vI a]) rfl rfl ?_
  repeat refine AW.s rfl ?_
  try dsimp only [List.set_cons_zero, List.set_cons_succ, Option.toList_some, Option.toList_none, List.cons_append, List.nil_append]
  refine AW.S k_10_113 (c_isWithin) rfl rfl rfl rfl (fun r1 m9 hq => ?_)
  obtain ⟨rfl, hm9⟩ := hq
  rw [hm9]
  try dsimp only [List.set_cons_zero, List.set_cons_succ, Option.toList_some, Option.toList_none, List.cons_append, List.nil_append]
  by_cases q1 : wB a 255 = 1
  · rw [q1]
    have e0 : feedF Ω a = if oN Ω = 160 then (-4, Ω) else (nI (oN Ω + 1), uT Ω (oN Ω + 1) (upd (oB Ω) (oN Ω) a)) := if_pos q1
    rw [e0]
    have hsz : m 36 1 = nI (oN Ω) := hI.2.2.2.2.2.1
    refine AW.b rfl (fun hc => ?_) (fun hc => ?_)
    · exact absurd hc (by decide)
    · repeat refine AW.s rfl ?_
      try dsimp only [List.set_cons_zero, List.set_cons_succ, Option.toList_some, Option.toList_none, List.cons_append, List.nil_append]
      rw [show m (0 + 36) 1 = nI (oN Ω) from hsz]
      refine AW.b rfl (fun hc => ?_) (fun hc => ?_)
      · have e8 : oN Ω = 160 := (nI_eq (b := 160) (by omega) (by decide)).mp hc
        rw [if_pos e8]
        repeat refine AW.s rfl ?_
        try dsimp only [List.set_cons_zero, List.set_cons_succ, Option.toList_some, Option.toList_none, List.cons_append, List.nil_append]
        exact AW.ri rfl rfl rfl ⟨rfl, hI, KC.rf⟩
      · have e8 : ¬ oN Ω = 160 := fun q => hc (by rw [q]; rfl)
        rw [if_neg e8]
        repeat refine AW.s rfl ?_
        try dsimp only [List.set_cons_zero, List.set_cons_succ, Option.toList_some, Option.toList_none, List.cons_append, List.nil_append]
        refine AW.V k_10_94 ((c_Tput hsz hN)) rfl rfl rfl rfl rfl rfl (fun r1 m7 hq => ?_)
        obtain ⟨rfl, hm7⟩ := hq
        rw [hm7, if_pos (by omega)]
        repeat refine AW.s rfl ?_
        try dsimp only [List.set_cons_zero, List.set_cons_succ, Option.toList_some, Option.toList_none, List.cons_append, List.nil_append]
        rw [show mUp (mUp m 37 (oN Ω) a) 36 1 (nI (oN Ω + 1)) (0 + 36) 1 = nI (oN Ω + 1) from mUp_s _ _ _ _]
        refine AW.ri rfl rfl rfl ⟨rfl, ?_, fun q hq => by rw [mUp_a (by omega), mUp_a (by omega)]⟩
        have hf : ∀ q, q ≠ 36 → q ≠ 37 → mUp (mUp m 37 (oN Ω) a) 36 1 (nI (oN Ω + 1)) q = m q := fun q h1 h2 => by rw [mUp_a h1, mUp_a h2]
        obtain ⟨i1, i2, i3, i4, i5, i6, i7, i8⟩ := hI
        obtain ⟨w1, w2, w3, w4, -⟩ := hW
        refine ⟨i1.fr w1.2.1 (fun q g1 g2 => hf q (by omega) (by omega)), by rw [hf 0 (by decide) (by decide)]; exact i2, fun k => (i3 k).fr (w2 k).1.2.1 (fun q g1 g2 => hf q (by omega) (by omega)), by rw [hf 0 (by decide) (by decide)]; exact i4, fun t ht => ?_, mUp_s _ _ _ _, fun k hk => ?_, fun i hi => ?_⟩
        · have ht : t < oQ Ω := ht
          obtain ⟨en, g1, g2⟩ := i5 t ht
          refine ⟨en, g1.fr (hf _ (by omega) (by omega)) (hf _ (by omega) (by omega)) (hf _ (by omega) (by omega)) (hf _ (by omega) (by omega)), fun p hp F => ?_⟩
          have hz : tellV (mUp (mUp m 37 (oN Ω) a) 36 1 (nI (oN Ω + 1))) (199 + 6 * t) en p F = tellV m (199 + 6 * t) en p F := by
            unfold tellV
            rw [tval_eq g1 hp (hf _ (by omega) (by omega)) (hf _ (by omega) (by omega)) (hf _ (by omega) (by omega)) (fun _ _ => rfl)]
          rw [hz]
          exact g2 p hp F
        · have hk : k < oN Ω + 1 := hk
          rw [mUp_a (by decide)]
          show _ = upd (oB Ω) (oN Ω) a k
          by_cases e : k = oN Ω
          · subst e
            rw [mUp_s]
            simp [upd]
          · rw [mUp_n (Or.inr e), i7 k (by omega)]
            simp [upd, e]
        · rw [hf (235 + 2 * i) (by omega) (by omega), hf (235 + 2 * i + 1) (by omega) (by omega)]
          exact i8 i hi
  · rw [wB_0 q1]
    have e0 : feedF Ω a = (-2, Ω) := if_neg q1
    rw [e0]
    refine AW.b rfl (fun hc => ?_) (fun hc => ?_)
    · repeat refine AW.s rfl ?_
      try dsimp only [List.set_cons_zero, List.set_cons_succ, Option.toList_some, Option.toList_none, List.cons_append, List.nil_append]
      exact AW.ri rfl rfl rfl ⟨rfl, hI, KC.rf⟩
    · exact absurd rfl hc
def forceF (Ω : OM) (a : Int32) : Int32 × OM := if hB a (oQ Ω) = 1 then (nI ((oG Ω) 0 4), uG Ω (sU (oG Ω) 0 4 a.toNatClampNeg)) else (-2, Ω)
theorem RepS.ul {m : Mem} {S v : Nat} {σ : Sg} (hs : RepS m S σ) (hw8 : σ 0 1 ≤ 8) : RepS (mUp m S 10 (nI v)) S (sU σ 0 4 v) := by
  obtain ⟨h1, h2, h3, h4, h5, h6, h7, h8⟩ := hs
  have e0 : ∀ k, k ≠ 4 → sU σ 0 4 v 0 k = σ 0 k := fun k hk => by unfold sU; rw [if_neg (fun q => hk q.2)]
  have e1 : ∀ a k, a ≠ 0 → sU σ 0 4 v a k = σ a k := fun a k ha => by unfold sU; rw [if_neg (fun q => ha q.1)]
  refine ⟨?_, ?_, ?_, ?_, fun w hw => ?_, fun r hr => ?_, ?_, fun i hi => ?_⟩
  · rw [e0 0 (by decide), mUp_n (Or.inr (by decide))]; exact h1
  · rw [e0 1 (by decide), mUp_n (Or.inr (by decide))]; exact h2
  · rw [e0 2 (by decide), mUp_n (Or.inr (by decide))]; exact h3
  · rw [mUp_s]; simp [sU]
  · rw [e0 1 (by decide)] at hw
    rw [e1 1 w (by decide), e1 2 w (by decide), mUp_a (by omega), mUp_a (by omega), mUp_a (by omega)]
    obtain ⟨q1, q2, q3⟩ := h5 w hw
    exact ⟨q1, q2, fun k hk => by rw [e1 (10 + w) k (by omega)]; exact q3 k hk⟩
  · rw [e0 2 (by decide)] at hr
    rw [e1 3 r (by decide), e1 4 r (by decide), e1 5 r (by decide), mUp_a (by omega), mUp_a (by omega), mUp_a (by omega)]
    exact h6 r hr
  · rw [e0 3 (by decide), mUp_a (by omega)]; exact h7
  · rw [e0 3 (by decide)] at hi
    rw [e1 6 i (by decide), mUp_a (by omega)]; exact h8 i hi
theorem C_force {l : Launch} {X : XT} {d : Nat} {a : Int32} {m : Mem} {Ω : OM} (hW : WO Ω) (hI : InvC m Ω) : Meth l X d M_X10_force [vR 11 0, vI a] m (fun r m' => r = some (vI (forceF Ω a).1) ∧ InvC m' (forceF Ω a).2 ∧ KC m m') := by
  have h6 := hW.2.2.2.1
  refine E_X10_force (ls := [vR 11 0, vI a, vU]) rfl rfl ?_
  have hbad : ¬ hB a (oQ Ω) = 1 → AW (GM l X d M_X10_force (fun r m' => r = some (vI (forceF Ω a).1) ∧ InvC m' (forceF Ω a).2 ∧ KC m m')) 12 [vR 11 0, vI a, vU] [] m := by
    intro hn
    have e0 : forceF Ω a = (-2, Ω) := if_neg hn
    rw [e0]
    repeat refine AW.s rfl ?_
    try dsimp only [List.set_cons_zero, List.set_cons_succ, Option.toList_some, Option.toList_none, List.cons_append, List.nil_append]
    exact AW.ri rfl rfl rfl ⟨rfl, hI, KC.rf⟩
  repeat refine AW.s rfl ?_
  try dsimp only [List.set_cons_zero, List.set_cons_succ, Option.toList_some, Option.toList_none, List.cons_append, List.nil_append]
  refine AW.b rfl (fun hc => ?_) (fun hc => ?_)
  · have q1 := hc
    exact hbad (fun q => by unfold hB at q; rw [if_pos q1] at q; exact absurd q (by decide))
  · have q1 := hc
    repeat refine AW.s rfl ?_
    try dsimp only [List.set_cons_zero, List.set_cons_succ, Option.toList_some, Option.toList_none, List.cons_append, List.nil_append]
    rw [show m 0 4 = nI (oQ Ω) from hI.2.2.2.1]
    refine AW.b rfl (fun hc => ?_) (fun hc => ?_)
    · have q2 := hc
      have q3 : hB a (oQ Ω) = 1 := by unfold hB; rw [if_neg q1, if_pos q2]
      obtain ⟨t, ht, rfl⟩ := (hB_1 (by omega)).mp q3
      have e0 : forceF Ω (nI t) = (nI ((oG Ω) 0 4), uG Ω (sU (oG Ω) 0 4 t)) := by unfold forceF; rw [if_pos q3, nI_clamp (by omega)]
      rw [e0]
      repeat refine AW.s rfl ?_
      try dsimp only [List.set_cons_zero, List.set_cons_succ, Option.toList_some, Option.toList_none, List.cons_append, List.nil_append]
      rw [show m (0 + 1) 10 = nI ((oG Ω) 0 4) from hI.1.2.2.2.1]
      exact AW.ri rfl rfl rfl ⟨rfl, hI.g hW (hI.1.ul hW.1.2.1) (fun q hq => mUp_a (by omega)), fun q hq => mUp_a (by omega)⟩
    · have q2 := hc
      exact hbad (fun q => by unfold hB at q; rw [if_neg q1, if_neg q2] at q; exact absurd q (by decide))
theorem pB_01 (k : Int32) : pB k = 0 ∨ pB k = 1 := by
  unfold pB
  split
  · exact Or.inl rfl
  · split
    · exact Or.inr rfl
    · exact Or.inl rfl
def saidF (Ω : OM) (a k : Int32) : Int32 := if hB a ((oG Ω) 0 1) = 1 then (if pB k = 1 then ansO (saidS (oG Ω) (rowL (oG Ω)) a.toNatClampNeg) k else -2) else -2
theorem C_said {l : Launch} {X : XT} {d : Nat} {a k : Int32} {m : Mem} {Ω : OM} (hd : 5 ≤ d) (hW : WO Ω) (hI : InvC m Ω) : Meth l X d M_X10_said [vR 11 0, vI a, vI k] m (fun r m' => r = some (vI (saidF Ω a k)) ∧ FrC m m') := by
  obtain ⟨d, rfl⟩ : ∃ e, d = e + 1 := ⟨d - 1, by omega⟩
  have h1 := hW.1.2.1
  refine E_X10_said (ls := [vR 11 0, vI a, vI k]) rfl rfl ?_
  repeat refine AW.s rfl ?_
  try dsimp only [List.set_cons_zero, List.set_cons_succ, Option.toList_some, Option.toList_none, List.cons_append, List.nil_append]
  refine AW.V k_10_166 ((c_hasWord hI.1)) rfl rfl rfl rfl rfl rfl (fun r1 m9 hq => ?_)
  obtain ⟨rfl, hm9⟩ := hq
  rw [hm9]
  try dsimp only [List.set_cons_zero, List.set_cons_succ, Option.toList_some, Option.toList_none, List.cons_append, List.nil_append]
  by_cases q1 : hB a ((oG Ω) 0 1) = 1
  · rw [q1]
    refine AW.b rfl (fun hc => ?_) (fun hc => ?_)
    · exact absurd hc (by decide)
    · repeat refine AW.s rfl ?_
      try dsimp only [List.set_cons_zero, List.set_cons_succ, Option.toList_some, Option.toList_none, List.cons_append, List.nil_append]
      refine AW.S k_10_182 (c_isSaidPlace) rfl rfl rfl rfl (fun r1 m8 hq => ?_)
      obtain ⟨rfl, hm8⟩ := hq
      rw [hm8]
      try dsimp only [List.set_cons_zero, List.set_cons_succ, Option.toList_some, Option.toList_none, List.cons_append, List.nil_append]
      rcases pB_01 k with q2 | q2
      · have e0 : saidF Ω a k = -2 := by unfold saidF; rw [if_pos q1, if_neg (by rw [q2]; decide)]
        rw [q2, e0]
        refine AW.b rfl (fun hc => ?_) (fun hc => ?_)
        · repeat refine AW.s rfl ?_
          try dsimp only [List.set_cons_zero, List.set_cons_succ, Option.toList_some, Option.toList_none, List.cons_append, List.nil_append]
          exact AW.ri rfl rfl rfl ⟨rfl, FrC.rf⟩
        · exact absurd rfl hc
      · obtain ⟨w, hw, rfl⟩ := (hB_1 (by omega)).mp q1
        have e0 : saidF Ω (nI w) k = ansO (saidS (oG Ω) (rowL (oG Ω)) w) k := by unfold saidF; rw [if_pos q1, if_pos q2, nI_clamp (by omega)]
        rw [q2, e0]
        refine AW.b rfl (fun hc => ?_) (fun hc => ?_)
        · exact absurd hc (by decide)
        · repeat refine AW.s rfl ?_
          try dsimp only [List.set_cons_zero, List.set_cons_succ, Option.toList_some, Option.toList_none, List.cons_append, List.nil_append]
          refine AW.V k_10_185 ((c_say (h := 61) (ρ := 16) (by omega) hI.1 hW.1 (rowL_wf hW.1) hI.1.row hw (by decide) (by decide))) rfl rfl rfl rfl rfl rfl (fun r1 m7 hq => ?_)
          obtain ⟨rfl, p1, p2⟩ := hq
          repeat refine AW.s rfl ?_
          try dsimp only [List.set_cons_zero, List.set_cons_succ, Option.toList_some, Option.toList_none, List.cons_append, List.nil_append]
          refine AW.V k_10_189 ((c_answer (h := 61) (by omega) p1 (saidS_wf hW.1 (rowL_wf hW.1) hw))) rfl rfl rfl rfl rfl rfl (fun r1 m6 hq => ?_)
          obtain ⟨rfl, hm6⟩ := hq
          rw [hm6]
          repeat refine AW.s rfl ?_
          try dsimp only [List.set_cons_zero, List.set_cons_succ, Option.toList_some, Option.toList_none, List.cons_append, List.nil_append]
          exact AW.ri rfl rfl rfl ⟨rfl, fun q hq => p2 q (by omega) (by omega)⟩
  · have e0 : saidF Ω a k = -2 := by unfold saidF; rw [if_neg q1]
    rw [hB_0 q1, e0]
    refine AW.b rfl (fun hc => ?_) (fun hc => ?_)
    · repeat refine AW.s rfl ?_
      try dsimp only [List.set_cons_zero, List.set_cons_succ, Option.toList_some, Option.toList_none, List.cons_append, List.nil_append]
      exact AW.ri rfl rfl rfl ⟨rfl, FrC.rf⟩
    · exact absurd rfl hc
def turnedF (Ω : OM) (a b k : Int32) : Int32 := if hB a ((oG Ω) 0 1) = 1 then (if hB b ((oG Ω) 0 2) = 1 then (if pB k = 1 then ansO (turnS (oG Ω) b.toNatClampNeg (some (wl (oG Ω) a.toNatClampNeg))) k else -2) else -2) else -2
theorem C_turned {l : Launch} {X : XT} {d : Nat} {a b k : Int32} {m : Mem} {Ω : OM} (hd : 5 ≤ d) (hW : WO Ω) (hI : InvC m Ω) : Meth l X d M_X10_turned [vR 11 0, vI a, vI b, vI k] m (fun r m' => r = some (vI (turnedF Ω a b k)) ∧ FrC m m') := by
  obtain ⟨d, rfl⟩ : ∃ e, d = e + 1 := ⟨d - 1, by omega⟩
  have h1 := hW.1.2.1
  have h2 := hW.1.2.2.1
  refine E_X10_turned (ls := [vR 11 0, vI a, vI b, vI k]) rfl rfl ?_
  repeat refine AW.s rfl ?_
  try dsimp only [List.set_cons_zero, List.set_cons_succ, Option.toList_some, Option.toList_none, List.cons_append, List.nil_append]
  refine AW.V k_10_166 ((c_hasWord hI.1)) rfl rfl rfl rfl rfl rfl (fun r1 m9 hq => ?_)
  obtain ⟨rfl, hm9⟩ := hq
  rw [hm9]
  try dsimp only [List.set_cons_zero, List.set_cons_succ, Option.toList_some, Option.toList_none, List.cons_append, List.nil_append]
  by_cases q1 : hB a ((oG Ω) 0 1) = 1
  · rw [q1]
    refine AW.b rfl (fun hc => ?_) (fun hc => ?_)
    · exact absurd hc (by decide)
    · repeat refine AW.s rfl ?_
      try dsimp only [List.set_cons_zero, List.set_cons_succ, Option.toList_some, Option.toList_none, List.cons_append, List.nil_append]
      refine AW.V k_10_142 ((c_hasRule hI.1)) rfl rfl rfl rfl rfl rfl (fun r1 m5 hq => ?_)
      obtain ⟨rfl, hm5⟩ := hq
      rw [hm5]
      try dsimp only [List.set_cons_zero, List.set_cons_succ, Option.toList_some, Option.toList_none, List.cons_append, List.nil_append]
      by_cases q3 : hB b ((oG Ω) 0 2) = 1
      · rw [q3]
        refine AW.b rfl (fun hc => ?_) (fun hc => ?_)
        · exact absurd hc (by decide)
        · repeat refine AW.s rfl ?_
          try dsimp only [List.set_cons_zero, List.set_cons_succ, Option.toList_some, Option.toList_none, List.cons_append, List.nil_append]
          refine AW.S k_10_182 (c_isSaidPlace) rfl rfl rfl rfl (fun r1 m8 hq => ?_)
          obtain ⟨rfl, hm8⟩ := hq
          rw [hm8]
          try dsimp only [List.set_cons_zero, List.set_cons_succ, Option.toList_some, Option.toList_none, List.cons_append, List.nil_append]
          rcases pB_01 k with q2 | q2
          · have e0 : turnedF Ω a b k = -2 := by unfold turnedF; rw [if_pos q1, if_pos q3, if_neg (by rw [q2]; decide)]
            rw [q2, e0]
            refine AW.b rfl (fun hc => ?_) (fun hc => ?_)
            · repeat refine AW.s rfl ?_
              try dsimp only [List.set_cons_zero, List.set_cons_succ, Option.toList_some, Option.toList_none, List.cons_append, List.nil_append]
              exact AW.ri rfl rfl rfl ⟨rfl, FrC.rf⟩
            · exact absurd rfl hc
          · obtain ⟨w, hw, rfl⟩ := (hB_1 (by omega)).mp q1
            obtain ⟨r, hr, rfl⟩ := (hB_1 (by omega)).mp q3
            have e0 : turnedF Ω (nI w) (nI r) k = ansO (turnS (oG Ω) r (some (wl (oG Ω) w))) k := by unfold turnedF; rw [if_pos q1, if_pos q3, if_pos q2, nI_clamp (by omega), nI_clamp (by omega)]
            rw [q2, e0]
            refine AW.b rfl (fun hc => ?_) (fun hc => ?_)
            · exact absurd hc (by decide)
            · repeat refine AW.s rfl ?_
              try dsimp only [List.set_cons_zero, List.set_cons_succ, Option.toList_some, Option.toList_none, List.cons_append, List.nil_append]
              refine AW.V k_10_193 ((c_sayByOne (h := 61) (by omega) hI.1 hW.1 hr hw (by decide))) rfl rfl rfl rfl rfl rfl (fun r1 m7 hq => ?_)
              obtain ⟨rfl, p1, p2⟩ := hq
              repeat refine AW.s rfl ?_
              try dsimp only [List.set_cons_zero, List.set_cons_succ, Option.toList_some, Option.toList_none, List.cons_append, List.nil_append]
              refine AW.V k_10_189 ((c_answer (h := 61) (by omega) p1 (turnS_wf hW.1 hr (wl_wf hW.1 hw)))) rfl rfl rfl rfl rfl rfl (fun r1 m6 hq => ?_)
              obtain ⟨rfl, hm6⟩ := hq
              rw [hm6]
              repeat refine AW.s rfl ?_
              try dsimp only [List.set_cons_zero, List.set_cons_succ, Option.toList_some, Option.toList_none, List.cons_append, List.nil_append]
              exact AW.ri rfl rfl rfl ⟨rfl, fun q hq => p2 q (by omega) (by omega)⟩
      · have e0 : turnedF Ω a b k = -2 := by unfold turnedF; rw [if_pos q1, if_neg q3]
        rw [hB_0 q3, e0]
        refine AW.b rfl (fun hc => ?_) (fun hc => ?_)
        · repeat refine AW.s rfl ?_
          try dsimp only [List.set_cons_zero, List.set_cons_succ, Option.toList_some, Option.toList_none, List.cons_append, List.nil_append]
          exact AW.ri rfl rfl rfl ⟨rfl, FrC.rf⟩
        · exact absurd rfl hc
  · have e0 : turnedF Ω a b k = -2 := by unfold turnedF; rw [if_neg q1]
    rw [hB_0 q1, e0]
    refine AW.b rfl (fun hc => ?_) (fun hc => ?_)
    · repeat refine AW.s rfl ?_
      try dsimp only [List.set_cons_zero, List.set_cons_succ, Option.toList_some, Option.toList_none, List.cons_append, List.nil_append]
      exact AW.ri rfl rfl rfl ⟨rfl, FrC.rf⟩
    · exact absurd rfl hc
