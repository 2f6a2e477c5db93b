theorem c_safeLetters {l : Launch} {X : XT} {d : Nat} {w : Nat} {m : Mem} {σ : Sg} (hd : 6 ≤ d) (hs : RepS m 1 σ) (hσ : WF σ) (hw : w < σ 0 1) : Meth l X d M_X10_safeLetters [vR 11 0, vI (nI w)] m (fun r1 m' => ∃ x, r1 = some (vI x) ∧ isBits x (fun i => i < σ 1 w ∧ ∀ c, c < 26 → safeC σ w i c) ∧ FrC m m') := by
  obtain ⟨d, rfl⟩ : ∃ e, d = e + 1 := ⟨d - 1, by omega⟩
  have h8 := hσ.2.1
  obtain ⟨z1, z2, -⟩ := hσ.2.2.2.2.2.1 w hw
  refine E_X10_safeLetters (ls := [vR 11 0, vI (nI w), vU, vU]) rfl rfl ?_
  repeat refine AW.s rfl ?_
  try dsimp only [List.set_cons_zero, List.set_cons_succ, Option.toList_some, Option.toList_none, List.cons_append, List.nil_append]
  refine AW.V k_10_210 ((c_sayAll (H := 43) (ρ := 16) (rw := rowL σ) (by omega) hs hσ (rowL_wf hσ) hs.row (by decide) (by decide))) rfl rfl rfl rfl rfl rfl (fun r1 m1 hq => ?_)
  obtain ⟨rfl, hY, hf1⟩ := hq
  have fc1 : FrC m m1 := fun a ha => hf1 a (by omega)
  have hs1 := hs.C hσ fc1
  repeat refine AW.u 22 rfl rfl ?_
  try dsimp only [List.set_cons_zero, List.set_cons_succ, Option.toList_some, Option.toList_none, List.cons_append, List.nil_append]
  refine AW.loop (pc := 22) (σ := Int32) (σ 1 w) (fun i x => [vR 11 0, vI (nI w), vI x, vI (nI i)]) (fun i x m2 => (∀ a, a ≠ 61 → a ≠ 62 → m2 a = m1 a) ∧ isBits x (fun j => j < i ∧ ∀ c, c < 26 → safeC σ w j c)) (fun i x m2 hi hm2 ih => ?_) 0 0 m1 (Nat.zero_le _) ⟨fun _ _ _ => rfl, isBits.zero.to (fun b => ⟨fun q => absurd q id, fun q => absurd q.1 (by omega)⟩)⟩
  obtain ⟨hf, hb⟩ := hm2
  have fc2 : FrC m1 m2 := fun a ha => hf a (by omega) (by omega)
  have hs2 := hs1.C hσ fc2
  have hY2 : RepYs m2 43 (σ 0 1) (saidS σ (rowL σ)) := hY.fr h8 (fun a e1 e2 => hf a (by omega) (by omega))
  repeat refine AW.s rfl ?_
  try dsimp only [List.set_cons_zero, List.set_cons_succ, Option.toList_some, Option.toList_none, List.cons_append, List.nil_append]
  refine AW.c rfl (vp_in_nI (by omega) (by decide)) ?_
  try dsimp only [List.set_cons_zero, List.set_cons_succ, Option.toList_some, Option.toList_none, List.cons_append, List.nil_append]
  rw [nI_clamp (by omega), show m2 (0 + 1 + 10) w = nI (σ 1 w) from (hs2.2.2.2.2.1 w hw).1]
  refine AW.b rfl (fun hc => ?_) (fun hc => ?_)
  · have hlt : i < σ 1 w := (nI_ltI (by omega) (by omega)).mp hc
    repeat refine AW.s rfl ?_
    try dsimp only [List.set_cons_zero, List.set_cons_succ, Option.toList_some, Option.toList_none, List.cons_append, List.nil_append]
    refine AW.V k_10_351 ((c_isSafe (by omega) hs2 hσ hw hlt hY2)) rfl rfl rfl rfl rfl rfl (fun r1 m3 hq => ?_)
    obtain ⟨b, rfl, hbb, hf3⟩ := hq
    have f3 : ∀ a, a ≠ 61 → a ≠ 62 → m3 a = m1 a := fun a e1 e2 => by rw [hf3 a e1 e2]; exact hf a e1 e2
    try dsimp only [List.set_cons_zero, List.set_cons_succ, Option.toList_some, Option.toList_none, List.cons_append, List.nil_append]
    cases b with
    | false =>
      refine AW.b rfl (fun hc => ?_) (fun hc => ?_)
      · repeat refine AW.u 22 rfl rfl ?_
        try dsimp only [List.set_cons_zero, List.set_cons_succ, Option.toList_some, Option.toList_none, List.cons_append, List.nil_append]
        rw [nI_1]
        refine ih _ _ hlt ⟨f3, hb.to (fun r => ⟨fun q => ⟨by omega, q.2⟩, fun q => ?_⟩)⟩
        by_cases e : r = i
        · subst e; exact absurd (hbb.mpr q.2) (by decide)
        · exact ⟨by omega, q.2⟩
      · exact absurd rfl hc
    | true =>
      refine AW.b rfl (fun hc => ?_) (fun hc => ?_)
      · exact absurd hc (by decide)
      · repeat refine AW.u 22 rfl rfl ?_
        try dsimp only [List.set_cons_zero, List.set_cons_succ, Option.toList_some, Option.toList_none, List.cons_append, List.nil_append]
        rw [nI_1]
        refine ih _ _ hlt ⟨f3, (hb.or (k := i) (by omega)).to (fun r => ⟨fun q => ?_, fun q => ?_⟩)⟩
        · rcases q with q | rfl
          · exact ⟨by omega, q.2⟩
          · exact ⟨by omega, hbb.mp rfl⟩
        · by_cases e : r = i
          · exact Or.inr e
          · exact Or.inl ⟨by omega, q.2⟩
  · have : i = σ 1 w := by
      have : ¬ i < σ 1 w := fun q => hc ((nI_ltI (by omega) (by omega)).mpr q)
      omega
    subst this
    repeat refine AW.s rfl ?_
    try dsimp only [List.set_cons_zero, List.set_cons_succ, Option.toList_some, Option.toList_none, List.cons_append, List.nil_append]
    exact AW.ri rfl rfl rfl ⟨_, rfl, hb, fc1.tr fc2⟩
theorem RepS.uR {m m' : Mem} {σ : Sg} {t r c : Nat} (hs : RepS m 1 σ) (hw8 : σ 0 1 ≤ 8) (ht : 3 ≤ t) (ht5 : t ≤ 5) (h1 : ∀ a, 1 ≤ a → a ≤ 17 → a ≠ 10 + t → m' a = m a) (h2 : m' (10 + t) = upd (m (10 + t)) r (nI c)) : RepS m' 1 (sU σ t r c) := by
  obtain ⟨g1, g2, g3, g4, g5, g7, g8, g9⟩ := hs
  have gn : ∀ a k, a ≠ t → sU σ t r c a k = σ a k := fun _ _ e => sU_n (Or.inl e)
  unfold RepS
  rw [gn 0 0 (by omega), gn 0 1 (by omega), gn 0 2 (by omega), gn 0 3 (by omega), gn 0 4 (by omega), h1 1 (by omega) (by omega) (by omega), h1 (1 + 15) (by omega) (by omega) (by omega), h1 (1 + 16) (by omega) (by omega) (by omega), h1 (1 + 10) (by omega) (by omega) (by omega), h1 (1 + 11) (by omega) (by omega) (by omega)]
  have hcell : ∀ a x, 3 ≤ a → a ≤ 5 → m (10 + a) x = nI (σ a x) → m' (10 + a) x = nI (sU σ t r c a x) := by
    intro a x e1 e2 y
    by_cases e : a = t
    · subst e
      rw [h2]
      by_cases e3 : x = r
      · subst e3; rw [sU_s]; exact if_pos rfl
      · rw [sU_n (Or.inr e3)]; exact (if_neg e3).trans y
    · rw [h1 _ (by omega) (by omega) (by omega), gn _ _ e]; exact y
  refine ⟨g1, g2, g3, g4, fun v hv => ?_, fun q hq => ?_, g8, fun j hj => ?_⟩
  · obtain ⟨y1, y2, y3⟩ := g5 v hv
    rw [gn 1 v (by omega), gn 2 v (by omega)]
    refine ⟨y1, y2, fun k hk => ?_⟩
    rw [h1 _ (by omega) (by omega) (by omega), gn _ _ (by omega)]
    exact y3 k hk
  · obtain ⟨y1, y2, y3⟩ := g7 q hq
    exact ⟨hcell 3 q (by decide) (by decide) y1, hcell 4 q (by decide) (by decide) y2, hcell 5 q (by decide) (by decide) y3⟩
  · rw [gn 6 j (by omega)]
    exact g9 j hj
theorem WF.uR {σ : Sg} (h : WF σ) {t r c : Nat} (ht : 3 ≤ t) (ht5 : t ≤ 5) (hc : c < 26) (hc3 : t = 3 → c < 6) : WF (sU σ t r c) := by
  obtain ⟨h1, h2, h3, h4, h5, h6, h7, h8⟩ := h
  have gn : ∀ a k, a ≠ t → sU σ t r c a k = σ a k := fun _ _ e => sU_n (Or.inl e)
  unfold WF
  rw [gn 0 0 (by omega), gn 0 1 (by omega), gn 0 2 (by omega), gn 0 3 (by omega), gn 0 4 (by omega)]
  refine ⟨h1, h2, h3, h4, h5, fun v hv => ?_, fun q hq => ?_, fun j hj => ?_⟩
  · obtain ⟨y1, y2, y3, y4⟩ := h6 v hv
    rw [gn 1 v (by omega), gn 2 v (by omega)]
    exact ⟨y1, y2, y3, fun k hk => by rw [gn _ _ (by omega)]; exact y4 k hk⟩
  · obtain ⟨y1, y2, y3⟩ := h7 q hq
    have hcell : ∀ a b, σ a q < b → (a = t → c < b) → sU σ t r c a q < b := by
      intro a b e1 e2
      by_cases e : a = t ∧ q = r
      · obtain ⟨rfl, rfl⟩ := e
        rw [sU_s]; exact e2 rfl
      · rw [sU_n (by omega)]; exact e1
    exact ⟨hcell 3 6 y1 (fun e => hc3 e.symm), hcell 4 26 y2 (fun _ => hc), hcell 5 26 y3 (fun _ => hc)⟩
  · rw [gn 6 j (by omega)]
    exact h8 j hj
/-- rows that differ in one place, and put back -/
theorem upd_upd {f : Nat → Int32} {k : Nat} {a b : Int32} : upd (upd f k a) k b = upd f k b := by
  funext x
  by_cases e : x = k
  · exact (if_pos e).trans (if_pos e).symm
  · exact (if_neg e).trans ((if_neg e).trans (if_neg e).symm)
theorem upd_own {f : Nat → Int32} {k : Nat} {a : Int32} (h : f k = a) : upd f k a = f := by
  funext x
  by_cases e : x = k
  · rw [e]; exact (if_pos rfl).trans h.symm
  · exact if_neg e
theorem c_fitting {l : Launch} {X : XT} {d : Nat} {h w t r n z : Nat} {m : Mem} {σ : Sg} (hd : 5 ≤ d) (hs : RepS m 1 σ) (hσ : WF σ) (hw : w < σ 0 1) (ht : 3 ≤ t) (ht5 : t ≤ 5) (hr : r < σ 0 2) (hn : n ≤ 26) (hn3 : t = 3 → n ≤ 6) (hh : 235 ≤ h) (hz : m h 2 = nI z) (hz40 : z ≤ 40) : Meth l X d M_X10_fitting [vR 11 0, vR 7 h, vI (nI w), vR 1006 (10 + t), vI (nI r), vI (nI n)] m (fun r1 m' => ∃ x, r1 = some (vI x) ∧ isBits x (fun c => c < n ∧ telO (m (h + 1)) z (saidS (sU σ t r c) (rowL σ) w)) ∧ ∀ a, a ≠ 61 → a ≠ 62 → m' a = m a) := by
  obtain ⟨d, rfl⟩ : ∃ e, d = e + 1 := ⟨d - 1, by omega⟩
  have h8 := hσ.2.1
  have h6 := hσ.2.2.1
  refine E_X10_fitting (ls := [vR 11 0, vR 7 h, vI (nI w), vR 1006 (10 + t), vI (nI r), vI (nI n), vU, vU, vU]) rfl rfl ?_
  repeat refine AW.s rfl ?_
  try dsimp only [List.set_cons_zero, List.set_cons_succ, Option.toList_some, Option.toList_none, List.cons_append, List.nil_append]
  refine AW.c rfl (vp_in_nI (by omega) (by decide)) ?_
  try dsimp only [List.set_cons_zero, List.set_cons_succ, Option.toList_some, Option.toList_none, List.cons_append, List.nil_append]
  rw [nI_clamp (by omega)]
  repeat refine AW.u 12 rfl rfl ?_
  try dsimp only [List.set_cons_zero, List.set_cons_succ, Option.toList_some, Option.toList_none, List.cons_append, List.nil_append]
  refine AW.loop (pc := 12) (σ := Int32) n (fun c x => [vR 11 0, vR 7 h, vI (nI w), vR 1006 (10 + t), vI (nI r), vI (nI n), vI (m (10 + t) r), vI x, vI (nI c)]) (fun c x m1 => (∀ a, a ≠ 61 → a ≠ 62 → a ≠ 10 + t → m1 a = m a) ∧ (∃ v, m1 (10 + t) = upd (m (10 + t)) r v) ∧ isBits x (fun c' => c' < c ∧ telO (m (h + 1)) z (saidS (sU σ t r c') (rowL σ) w))) (fun c x m1 hcn hm1 ih => ?_) 0 0 m (Nat.zero_le _) ⟨fun _ _ _ _ => rfl, ⟨_, (upd_own rfl).symm⟩, isBits.zero.to (fun b => ⟨fun q => absurd q id, fun q => absurd q.1 (by omega)⟩)⟩
  obtain ⟨hf, ⟨v, hv⟩, hb⟩ := hm1
  repeat refine AW.s rfl ?_
  try dsimp only [List.set_cons_zero, List.set_cons_succ, Option.toList_some, Option.toList_none, List.cons_append, List.nil_append]
  refine AW.b rfl (fun hc => ?_) (fun hc => ?_)
  · have hlt : c < n := (nI_ltI (by omega) (by omega)).mp hc
    repeat refine AW.s rfl ?_
    try dsimp only [List.set_cons_zero, List.set_cons_succ, Option.toList_some, Option.toList_none, List.cons_append, List.nil_append]
    refine AW.c rfl (⟨vp_in_nI (by omega) (by decide), fun z => absurd z (by decide)⟩) ?_
    try dsimp only [List.set_cons_zero, List.set_cons_succ, Option.toList_some, Option.toList_none, List.cons_append, List.nil_append]
    rw [nI_clamp (by omega)]
    generalize hm2 : mUp m1 (10 + t) r (nI c) = m2
    have f2 : ∀ a, a ≠ 61 → a ≠ 62 → a ≠ 10 + t → m2 a = m a := fun a e1 e2 e3 => by rw [← hm2, mUp_a e3]; exact hf a e1 e2 e3
    have r2 : m2 (10 + t) = upd (m (10 + t)) r (nI c) := by rw [← hm2, mUp_row, hv, upd_upd]
    have hs2 : RepS m2 1 (sU σ t r c) := hs.uR h8 ht ht5 (fun a e1 e2 e3 => f2 a (by omega) (by omega) e3) r2
    have hσ2 : WF (sU σ t r c) := hσ.uR ht ht5 (by omega) (fun e => by have := hn3 e; omega)
    have e01 : sU σ t r c 0 1 = σ 0 1 := sU_n (Or.inl (by omega))
    have e02 : sU σ t r c 0 2 = σ 0 2 := sU_n (Or.inl (by omega))
    have hrw2 : WFr (sU σ t r c) (rowL σ) := ⟨(rowL_wf hσ).1, fun r hr => by rw [e02]; exact (rowL_wf hσ).2 r hr⟩
    have hρ2 : RepR m2 16 (rowL σ) := hs.row.fr (f2 _ (by decide) (by decide) (by omega)) (f2 _ (by decide) (by decide) (by omega))
    repeat refine AW.s rfl ?_
    try dsimp only [List.set_cons_zero, List.set_cons_succ, Option.toList_some, Option.toList_none, List.cons_append, List.nil_append]
    refine AW.V k_10_185 ((c_say (h := 61) (ρ := 16) (rw := rowL σ) (by omega) hs2 hσ2 hrw2 hρ2 (by rw [e01]; exact hw) (by decide) (by decide))) rfl rfl rfl rfl rfl rfl (fun r1 m3 hq => ?_)
    obtain ⟨rfl, p1, p2⟩ := hq
    have f3 : ∀ a, a ≠ 61 → a ≠ 62 → a ≠ 10 + t → m3 a = m a := fun a e1 e2 e3 => by rw [p2 a e1 e2]; exact f2 a e1 e2 e3
    have r3 : ∃ v, m3 (10 + t) = upd (m (10 + t)) r v := ⟨nI c, by rw [p2 _ (by omega) (by omega)]; exact r2⟩
    repeat refine AW.s rfl ?_
    try dsimp only [List.set_cons_zero, List.set_cons_succ, Option.toList_some, Option.toList_none, List.cons_append, List.nil_append]
    refine AW.V k_10_365 ((c_Stells (h := h) (g := 61) (n := z) (by omega) (by rw [f3 h (by omega) (by omega) (by omega)]; exact hz) hz40 p1 (saidS_wf hσ2 hrw2 (by rw [e01]; exact hw)))) rfl rfl rfl rfl rfl rfl (fun r1 m4 hq => ?_)
    obtain ⟨b, rfl, hbb, hm4⟩ := hq
    rw [hm4]
    rw [f3 (h + 1) (by omega) (by omega) (by omega)] at hbb
    try dsimp only [List.set_cons_zero, List.set_cons_succ, Option.toList_some, Option.toList_none, List.cons_append, List.nil_append]
    cases b with
    | false =>
      refine AW.b rfl (fun hc => ?_) (fun hc => ?_)
      · repeat refine AW.u 12 rfl rfl ?_
        try dsimp only [List.set_cons_zero, List.set_cons_succ, Option.toList_some, Option.toList_none, List.cons_append, List.nil_append]
        rw [nI_1]
        refine ih _ _ hlt ⟨f3, r3, hb.to (fun q => ⟨fun e => ⟨by omega, e.2⟩, fun e => ?_⟩)⟩
        by_cases e1 : q = c
        · subst e1; exact absurd (hbb.mpr e.2) (by decide)
        · exact ⟨by omega, e.2⟩
      · exact absurd rfl hc
    | true =>
      refine AW.b rfl (fun hc => ?_) (fun hc => ?_)
      · exact absurd hc (by decide)
      · repeat refine AW.u 12 rfl rfl ?_
        try dsimp only [List.set_cons_zero, List.set_cons_succ, Option.toList_some, Option.toList_none, List.cons_append, List.nil_append]
        rw [nI_1]
        refine ih _ _ hlt ⟨f3, r3, (hb.or (k := c) (by omega)).to (fun q => ⟨fun e => ?_, fun e => ?_⟩)⟩
        · rcases e with e | rfl
          · exact ⟨by omega, e.2⟩
          · exact ⟨by omega, hbb.mp rfl⟩
        · by_cases e1 : q = c
          · exact Or.inr e1
          · exact Or.inl ⟨by omega, e.2⟩
  · have : c = n := by
      have : ¬ c < n := fun q => hc ((nI_ltI (by omega) (by omega)).mpr q)
      omega
    subst this
    repeat refine AW.s rfl ?_
    try dsimp only [List.set_cons_zero, List.set_cons_succ, Option.toList_some, Option.toList_none, List.cons_append, List.nil_append]
    refine AW.c rfl (⟨vp_in_nI (by omega) (by decide), fun z => absurd z (by decide)⟩) ?_
    try dsimp only [List.set_cons_zero, List.set_cons_succ, Option.toList_some, Option.toList_none, List.cons_append, List.nil_append]
    rw [nI_clamp (by omega)]
    repeat refine AW.s rfl ?_
    try dsimp only [List.set_cons_zero, List.set_cons_succ, Option.toList_some, Option.toList_none, List.cons_append, List.nil_append]
    refine AW.ri rfl rfl rfl ⟨_, rfl, hb, fun a e1 e2 => ?_⟩
    by_cases e : a = 10 + t
    · subst e
      rw [mUp_row, hv, upd_upd, upd_own rfl]
    · rw [mUp_a e]
      exact hf a e1 e2 e
