theorem c_wordsSaidAs {l : Launch} {X : XT} {d : Nat} {h n : Nat} {m : Mem} {σ : Sg} (hd : 5 ≤ d) (hs : RepS m 1 σ) (hσ : WF σ) (hh : 235 ≤ h) (hn : m h 2 = nI n) (hn40 : n ≤ 40) : Meth l X d M_X10_wordsSaidAs [vR 11 0, vR 7 h] m (fun r1 m' => ∃ x, r1 = some (vI x) ∧ isBits x (fun w => w < σ 0 1 ∧ telO (m (h + 1)) n (saidS σ (rowL σ) w)) ∧ FrC m m') := by
  obtain ⟨d, rfl⟩ : ∃ e, d = e + 1 := ⟨d - 1, by omega⟩
  have h8 := hσ.2.1
  refine E_X10_wordsSaidAs (ls := [vR 11 0, vR 7 h, vU, vU]) rfl rfl ?_
  repeat refine AW.u 4 rfl rfl ?_
  try dsimp only [List.set_cons_zero, List.set_cons_succ, Option.toList_some, Option.toList_none, List.cons_append, List.nil_append]
  refine AW.loop (pc := 4) (σ := Int32) (σ 0 1) (fun i x => [vR 11 0, vR 7 h, vI x, vI (nI i)]) (fun i x m1 => FrC m m1 ∧ isBits x (fun w => w < i ∧ telO (m (h + 1)) n (saidS σ (rowL σ) w))) (fun i x m1 hi hm1 ih => ?_) 0 0 m (Nat.zero_le _) ⟨FrC.rf, isBits.zero.to (fun b => ⟨fun q => absurd q id, fun q => absurd q.1 (by omega)⟩)⟩
  obtain ⟨hf, hb⟩ := hm1
  have hs1 := hs.C hσ hf
  repeat refine AW.s rfl ?_
  try dsimp only [List.set_cons_zero, List.set_cons_succ, Option.toList_some, Option.toList_none, List.cons_append, List.nil_append]
  rw [show m1 (0 + 1) 4 = nI (σ 0 1) from hs1.2.1]
  refine AW.b rfl (fun hc => ?_) (fun hc => ?_)
  · have hlt : i < σ 0 1 := (nI_ltI (by omega) (by omega)).mp hc
    repeat refine AW.s rfl ?_
    try dsimp only [List.set_cons_zero, List.set_cons_succ, Option.toList_some, Option.toList_none, List.cons_append, List.nil_append]
    refine AW.V k_10_185 ((c_say (h := 61) (ρ := 16) (by omega) hs1 hσ (rowL_wf hσ) hs1.row hlt (by decide) (by decide))) rfl rfl rfl rfl rfl rfl (fun r1 m2 hq => ?_)
    obtain ⟨rfl, p1, p2⟩ := hq
    have fc2 : FrC m1 m2 := fun a ha => p2 a (by omega) (by omega)
    have fcc := hf.tr fc2
    repeat refine AW.s rfl ?_
    try dsimp only [List.set_cons_zero, List.set_cons_succ, Option.toList_some, Option.toList_none, List.cons_append, List.nil_append]
    refine AW.V k_10_365 ((c_Stells (h := h) (g := 61) (n := n) (by omega) (by rw [fcc h (by omega)]; exact hn) hn40 p1 (saidS_wf hσ (rowL_wf hσ) hlt))) rfl rfl rfl rfl rfl rfl (fun r1 m3 hq => ?_)
    obtain ⟨b, rfl, hbb, hm3⟩ := hq
    rw [hm3]
    rw [fcc (h + 1) (by omega)] at hbb
    try dsimp only [List.set_cons_zero, List.set_cons_succ, Option.toList_some, Option.toList_none, List.cons_append, List.nil_append]
    cases b with
    | false =>
      refine AW.b rfl (fun hc => ?_) (fun hc => ?_)
      · repeat refine AW.u 4 rfl rfl ?_
        try dsimp only [List.set_cons_zero, List.set_cons_succ, Option.toList_some, Option.toList_none, List.cons_append, List.nil_append]
        rw [nI_1]
        refine ih _ _ hlt ⟨fcc, hb.to (fun r => ⟨fun q => ⟨by omega, q.2⟩, fun q => ?_⟩)⟩
        by_cases e : r = i
        · subst e; exact absurd (hbb.mpr q.2) (by decide)
        · exact ⟨by omega, q.2⟩
      · exact absurd rfl hc
    | true =>
      refine AW.b rfl (fun hc => ?_) (fun hc => ?_)
      · exact absurd hc (by decide)
      · repeat refine AW.u 4 rfl rfl ?_
        try dsimp only [List.set_cons_zero, List.set_cons_succ, Option.toList_some, Option.toList_none, List.cons_append, List.nil_append]
        rw [nI_1]
        refine ih _ _ hlt ⟨fcc, (hb.or (k := i) (by omega)).to (fun r => ⟨fun q => ?_, fun q => ?_⟩)⟩
        · rcases q with q | rfl
          · exact ⟨by omega, q.2⟩
          · exact ⟨by omega, hbb.mp rfl⟩
        · by_cases e : r = i
          · exact Or.inr e
          · exact Or.inl ⟨by omega, q.2⟩
  · have : i = σ 0 1 := by
      have : ¬ i < σ 0 1 := fun q => hc ((nI_ltI (by omega) (by omega)).mpr q)
      omega
    subst this
    repeat refine AW.s rfl ?_
    try dsimp only [List.set_cons_zero, List.set_cons_succ, Option.toList_some, Option.toList_none, List.cons_append, List.nil_append]
    exact AW.ri rfl rfl rfl ⟨_, rfl, hb, hf⟩
/-- how many of the first are so -/
noncomputable def cntP (P : Nat → Prop) (i : Nat) : Nat := match i with
  | 0 => 0
  | i + 1 => cntP P i + @ite Nat (P i) (Classical.propDecidable _) 1 0
theorem cntP_yes {P : Nat → Prop} {i : Nat} (h : P i) : cntP P (i + 1) = cntP P i + 1 := by
  rw [cntP, if_pos h]
theorem cntP_no {P : Nat → Prop} {i : Nat} (h : ¬ P i) : cntP P (i + 1) = cntP P i := by
  rw [cntP, if_neg h, Nat.add_zero]
theorem cntP_le {P : Nat → Prop} (i : Nat) : cntP P i ≤ i := by
  induction i with
  | zero => exact Nat.le_refl _
  | succ i ih =>
    by_cases h : P i
    · rw [cntP_yes h]; omega
    · rw [cntP_no h]; omega
/-- how many words a rule turns into what a sheet tells -/
noncomputable def wttN (σ : Sg) (g : Nat → Int32) (n r : Nat) : Nat := cntP (fun w => telO g n (turnS σ r (some (wl σ w)))) (σ 0 1)
theorem c_wordsTurningTo {l : Launch} {X : XT} {d : Nat} {h n r : Nat} {m : Mem} {σ : Sg} (hd : 4 ≤ d) (hs : RepS m 1 σ) (hσ : WF σ) (hr : r < σ 0 2) (hh : 235 ≤ h) (hn : m h 2 = nI n) (hn40 : n ≤ 40) : Meth l X d M_X10_wordsTurningTo [vR 11 0, vR 7 h, vI (nI r)] m (fun r1 m' => r1 = some (vI (nI (wttN σ (m (h + 1)) n r))) ∧ FrC m m') := by
  obtain ⟨d, rfl⟩ : ∃ e, d = e + 1 := ⟨d - 1, by omega⟩
  have h8 := hσ.2.1
  refine E_X10_wordsTurningTo (ls := [vR 11 0, vR 7 h, vI (nI r), vU, vU]) rfl rfl ?_
  repeat refine AW.u 5 rfl rfl ?_
  try dsimp only [List.set_cons_zero, List.set_cons_succ, Option.toList_some, Option.toList_none, List.cons_append, List.nil_append]
  refine AW.loop (pc := 5) (σ := Unit) (σ 0 1) (fun i _ => [vR 11 0, vR 7 h, vI (nI r), vI (nI (cntP (fun w => telO (m (h + 1)) n (turnS σ r (some (wl σ w)))) i)), vI (nI i)]) (fun i _ m1 => FrC m m1) (fun i _ m1 hi hf ih => ?_) 0 () m (Nat.zero_le _) FrC.rf
  have hs1 := hs.C hσ hf
  have hcl := cntP_le (P := fun w => telO (m (h + 1)) n (turnS σ r (some (wl σ w)))) i
  repeat refine AW.s rfl ?_
  try dsimp only [List.set_cons_zero, List.set_cons_succ, Option.toList_some, Option.toList_none, List.cons_append, List.nil_append]
  rw [show m1 (0 + 1) 4 = nI (σ 0 1) from hs1.2.1]
  refine AW.b rfl (fun hc => ?_) (fun hc => ?_)
  · have hlt : i < σ 0 1 := (nI_ltI (by omega) (by omega)).mp hc
    repeat refine AW.s rfl ?_
    try dsimp only [List.set_cons_zero, List.set_cons_succ, Option.toList_some, Option.toList_none, List.cons_append, List.nil_append]
    refine AW.V k_10_193 ((c_sayByOne (h := 61) (by omega) hs1 hσ hr hlt (by decide))) rfl rfl rfl rfl rfl rfl (fun r1 m2 hq => ?_)
    obtain ⟨rfl, p1, p2⟩ := hq
    have fc2 : FrC m1 m2 := fun a ha => p2 a (by omega) (by omega)
    have fcc := hf.tr fc2
    repeat refine AW.s rfl ?_
    try dsimp only [List.set_cons_zero, List.set_cons_succ, Option.toList_some, Option.toList_none, List.cons_append, List.nil_append]
    refine AW.V k_10_365 ((c_Stells (h := h) (g := 61) (n := n) (by omega) (by rw [fcc h (by omega)]; exact hn) hn40 p1 (turnS_wf hσ hr (wl_wf hσ hlt)))) rfl rfl rfl rfl rfl rfl (fun r1 m3 hq => ?_)
    obtain ⟨b, rfl, hbb, hm3⟩ := hq
    rw [hm3]
    rw [fcc (h + 1) (by omega)] at hbb
    try dsimp only [List.set_cons_zero, List.set_cons_succ, Option.toList_some, Option.toList_none, List.cons_append, List.nil_append]
    cases b with
    | false =>
      have hno := cntP_no (P := fun w => telO (m (h + 1)) n (turnS σ r (some (wl σ w)))) (i := i) (fun q => by cases hbb.mpr q)
      refine AW.b rfl (fun hc => ?_) (fun hc => ?_)
      · repeat refine AW.u 5 rfl rfl ?_
        try dsimp only [List.set_cons_zero, List.set_cons_succ, Option.toList_some, Option.toList_none, List.cons_append, List.nil_append]
        rw [nI_1, ← hno]
        exact ih () _ hlt fcc
      · exact absurd rfl hc
    | true =>
      have hys := cntP_yes (P := fun w => telO (m (h + 1)) n (turnS σ r (some (wl σ w)))) (i := i) (hbb.mp rfl)
      refine AW.b rfl (fun hc => ?_) (fun hc => ?_)
      · exact absurd hc (by decide)
      · repeat refine AW.u 5 rfl rfl ?_
        try dsimp only [List.set_cons_zero, List.set_cons_succ, Option.toList_some, Option.toList_none, List.cons_append, List.nil_append]
        rw [nI_1, nI_1, ← hys]
        exact ih () _ hlt fcc
  · have : i = σ 0 1 := by
      have : ¬ i < σ 0 1 := fun q => hc ((nI_ltI (by omega) (by omega)).mpr q)
      omega
    subst this
    repeat refine AW.s rfl ?_
    try dsimp only [List.set_cons_zero, List.set_cons_succ, Option.toList_some, Option.toList_none, List.cons_append, List.nil_append]
    exact AW.ri rfl rfl rfl ⟨rfl, hf⟩
theorem c_rulesTurningTo {l : Launch} {X : XT} {d : Nat} {h n : Nat} {m : Mem} {σ : Sg} (hd : 5 ≤ d) (hs : RepS m 1 σ) (hσ : WF σ) (hh : 235 ≤ h) (hn : m h 2 = nI n) (hn40 : n ≤ 40) : Meth l X d M_X10_rulesTurningTo [vR 11 0, vR 7 h] m (fun r1 m' => ∃ x, r1 = some (vI x) ∧ isBits x (fun r => r < σ 0 2 ∧ 0 < wttN σ (m (h + 1)) n r) ∧ FrC m m') := by
  obtain ⟨d, rfl⟩ : ∃ e, d = e + 1 := ⟨d - 1, by omega⟩
  have h8 := hσ.2.1
  have h6 := hσ.2.2.1
  refine E_X10_rulesTurningTo (ls := [vR 11 0, vR 7 h, vU, vU]) rfl rfl ?_
  repeat refine AW.u 4 rfl rfl ?_
  try dsimp only [List.set_cons_zero, List.set_cons_succ, Option.toList_some, Option.toList_none, List.cons_append, List.nil_append]
  refine AW.loop (pc := 4) (σ := Int32) (σ 0 2) (fun i x => [vR 11 0, vR 7 h, vI x, vI (nI i)]) (fun i x m1 => FrC m m1 ∧ isBits x (fun r => r < i ∧ 0 < wttN σ (m (h + 1)) n r)) (fun i x m1 hi hm1 ih => ?_) 0 0 m (Nat.zero_le _) ⟨FrC.rf, isBits.zero.to (fun b => ⟨fun q => absurd q id, fun q => absurd q.1 (by omega)⟩)⟩
  obtain ⟨hf, hb⟩ := hm1
  have hs1 := hs.C hσ hf
  repeat refine AW.s rfl ?_
  try dsimp only [List.set_cons_zero, List.set_cons_succ, Option.toList_some, Option.toList_none, List.cons_append, List.nil_append]
  rw [show m1 (0 + 1) 8 = nI (σ 0 2) from hs1.2.2.1]
  refine AW.b rfl (fun hc => ?_) (fun hc => ?_)
  · have hlt : i < σ 0 2 := (nI_ltI (by omega) (by omega)).mp hc
    repeat refine AW.s rfl ?_
    try dsimp only [List.set_cons_zero, List.set_cons_succ, Option.toList_some, Option.toList_none, List.cons_append, List.nil_append]
    refine AW.V k_10_368 ((c_wordsTurningTo (h := h) (n := n) (r := i) (by omega) hs1 hσ hlt hh (by rw [hf h (by omega)]; exact hn) hn40)) rfl rfl rfl rfl rfl rfl (fun r1 m2 hq => ?_)
    obtain ⟨rfl, fc2⟩ := hq
    rw [hf (h + 1) (by omega)]
    have hle : wttN σ (m (h + 1)) n i ≤ σ 0 1 := cntP_le _
    try dsimp only [List.set_cons_zero, List.set_cons_succ, Option.toList_some, Option.toList_none, List.cons_append, List.nil_append]
    refine AW.b rfl (fun hc => ?_) (fun hc => ?_)
    · have hz : 0 < wttN σ (m (h + 1)) n i := by
        rcases Nat.eq_zero_or_pos (wttN σ (m (h + 1)) n i) with q | q
        · rw [q] at hc; exact absurd hc (by decide)
        · exact q
      repeat refine AW.u 4 rfl rfl ?_
      try dsimp only [List.set_cons_zero, List.set_cons_succ, Option.toList_some, Option.toList_none, List.cons_append, List.nil_append]
      rw [nI_1]
      refine ih _ _ hlt ⟨hf.tr fc2, (hb.or (k := i) (by omega)).to (fun r => ⟨fun q => ?_, fun q => ?_⟩)⟩
      · rcases q with q | rfl
        · exact ⟨by omega, q.2⟩
        · exact ⟨by omega, hz⟩
      · by_cases e : r = i
        · exact Or.inr e
        · exact Or.inl ⟨by omega, q.2⟩
    · have hz : ¬ 0 < wttN σ (m (h + 1)) n i := fun q => hc (nI_lt (a := 0) q (by omega))
      repeat refine AW.u 4 rfl rfl ?_
      try dsimp only [List.set_cons_zero, List.set_cons_succ, Option.toList_some, Option.toList_none, List.cons_append, List.nil_append]
      rw [nI_1]
      refine ih _ _ hlt ⟨hf.tr fc2, hb.to (fun r => ⟨fun q => ⟨by omega, q.2⟩, fun q => ?_⟩)⟩
      by_cases e : r = i
      · subst e; exact absurd q.2 hz
      · exact ⟨by omega, q.2⟩
  · have : i = σ 0 2 := by
      have : ¬ i < σ 0 2 := fun q => hc ((nI_ltI (by omega) (by omega)).mpr q)
      omega
    subst this
    repeat refine AW.s rfl ?_
    try dsimp only [List.set_cons_zero, List.set_cons_succ, Option.toList_some, Option.toList_none, List.cons_append, List.nil_append]
    exact AW.ri rfl rfl rfl ⟨_, rfl, hb, hf⟩
/-- how many pairs of a rule and a word -/
noncomputable def pttN (σ : Sg) (g : Nat → Int32) (n i : Nat) : Nat := match i with
  | 0 => 0
  | i + 1 => pttN σ g n i + wttN σ g n i
theorem pttN_s {σ : Sg} {g : Nat → Int32} {n i : Nat} : pttN σ g n (i + 1) = pttN σ g n i + wttN σ g n i := by rw [pttN]
theorem pttN_le {σ : Sg} {g : Nat → Int32} {n : Nat} (i : Nat) : pttN σ g n i ≤ i * σ 0 1 := by
  induction i with
  | zero => rw [pttN]; omega
  | succ i ih =>
    have : wttN σ g n i ≤ σ 0 1 := cntP_le _
    rw [pttN, Nat.succ_mul]
    omega
theorem c_pairsTurningTo {l : Launch} {X : XT} {d : Nat} {h n : Nat} {m : Mem} {σ : Sg} (hd : 5 ≤ d) (hs : RepS m 1 σ) (hσ : WF σ) (hh : 235 ≤ h) (hn : m h 2 = nI n) (hn40 : n ≤ 40) : Meth l X d M_X10_pairsTurningTo [vR 11 0, vR 7 h] m (fun r1 m' => r1 = some (vI (nI (pttN σ (m (h + 1)) n (σ 0 2)))) ∧ FrC m m') := by
  obtain ⟨d, rfl⟩ : ∃ e, d = e + 1 := ⟨d - 1, by omega⟩
  have h8 := hσ.2.1
  have h6 := hσ.2.2.1
  refine E_X10_pairsTurningTo (ls := [vR 11 0, vR 7 h, vU, vU]) rfl rfl ?_
  repeat refine AW.u 4 rfl rfl ?_
  try dsimp only [List.set_cons_zero, List.set_cons_succ, Option.toList_some, Option.toList_none, List.cons_append, List.nil_append]
  refine AW.loop (pc := 4) (σ := Unit) (σ 0 2) (fun i _ => [vR 11 0, vR 7 h, vI (nI (pttN σ (m (h + 1)) n i)), vI (nI i)]) (fun i _ m1 => FrC m m1) (fun i _ m1 hi hf ih => ?_) 0 () m (Nat.zero_le _) FrC.rf
  have hs1 := hs.C hσ hf
  repeat refine AW.s rfl ?_
  try dsimp only [List.set_cons_zero, List.set_cons_succ, Option.toList_some, Option.toList_none, List.cons_append, List.nil_append]
  rw [show m1 (0 + 1) 8 = nI (σ 0 2) from hs1.2.2.1]
  refine AW.b rfl (fun hc => ?_) (fun hc => ?_)
  · have hlt : i < σ 0 2 := (nI_ltI (by omega) (by omega)).mp hc
    repeat refine AW.s rfl ?_
    try dsimp only [List.set_cons_zero, List.set_cons_succ, Option.toList_some, Option.toList_none, List.cons_append, List.nil_append]
    refine AW.V k_10_368 ((c_wordsTurningTo (h := h) (n := n) (r := i) (by omega) hs1 hσ hlt hh (by rw [hf h (by omega)]; exact hn) hn40)) rfl rfl rfl rfl rfl rfl (fun r1 m2 hq => ?_)
    obtain ⟨rfl, fc2⟩ := hq
    rw [hf (h + 1) (by omega)]
    repeat refine AW.u 4 rfl rfl ?_
    try dsimp only [List.set_cons_zero, List.set_cons_succ, Option.toList_some, Option.toList_none, List.cons_append, List.nil_append]
    rw [nI_1, nI_add, ← pttN_s]
    exact ih () _ hlt (hf.tr fc2)
  · have : i = σ 0 2 := by
      have : ¬ i < σ 0 2 := fun q => hc ((nI_ltI (by omega) (by omega)).mpr q)
      omega
    subst this
    repeat refine AW.s rfl ?_
    try dsimp only [List.set_cons_zero, List.set_cons_succ, Option.toList_some, Option.toList_none, List.cons_append, List.nil_append]
    exact AW.ri rfl rfl rfl ⟨rfl, hf⟩
