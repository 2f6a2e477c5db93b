-- ===== the class's small methods =====
def wB (v b : Int32) : Int32 := if v < 0 then 0 else if b < v then 0 else 1
theorem wB_nar (v b : Int32) : narrow .boolean (.int (wB v b)) = .int (wB v b) := by
  unfold wB
  split
  · rfl
  · split <;> rfl
theorem wB_01 (v b : Int32) : wB v b = 0 ∨ wB v b = 1 := by
  unfold wB
  split
  · exact Or.inl rfl
  · split
    · exact Or.inl rfl
    · exact Or.inr rfl
theorem wB_1 {v : Int32} {n : Nat} (hn : n < 2 ^ 31) : wB v (nI n) = 1 ↔ ∃ j, j ≤ n ∧ v = nI j := by
  unfold wB
  by_cases h0 : v < 0
  · rw [if_pos h0]
    exact ⟨fun h => absurd h (by decide), fun ⟨j, hj, e⟩ => by rw [e] at h0; exact absurd h0 (nI_pos (by omega))⟩
  · rw [if_neg h0]
    obtain ⟨j, hj, rfl⟩ := nI_of h0
    by_cases h1 : n < j
    · rw [if_pos (nI_lt h1 hj)]
      refine ⟨fun h => absurd h (by decide), fun ⟨q, hq, e⟩ => ?_⟩
      have := (nI_eq hj (by omega)).mp e
      omega
    · rw [if_neg (fun q => h1 ((nI_ltI hn hj).mp q))]
      exact ⟨fun _ => ⟨j, by omega, rfl⟩, fun _ => rfl⟩
theorem wB_0 {v b : Int32} (h : ¬ wB v b = 1) : wB v b = 0 := (wB_01 v b).elim id (fun q => absurd q h)
theorem c_isWithin {l : Launch} {X : XT} {d : Nat} {v b : Int32} {m : Mem} : Meth l X d M_X10_isWithin [vI v, vI b] m (fun r m' => r = some (vI (wB v b)) ∧ m' = m) := by
  refine E_X10_isWithin (ls := [vI v, vI b]) rfl rfl ?_
  repeat refine AW.s rfl ?_
  try dsimp only [List.set_cons_zero, List.set_cons_succ, Option.toList_some, Option.toList_none, List.cons_append, List.nil_append]
  refine AW.b rfl (fun hc => ?_) (fun hc => ?_)
  · have e1 := hc
    repeat refine AW.s rfl ?_
    try dsimp only [List.set_cons_zero, List.set_cons_succ, Option.toList_some, Option.toList_none, List.cons_append, List.nil_append]
    exact AW.ri rfl rfl rfl ⟨by unfold wB; rw [if_pos e1], rfl⟩
  · have e1 := hc
    repeat refine AW.s rfl ?_
    try dsimp only [List.set_cons_zero, List.set_cons_succ, Option.toList_some, Option.toList_none, List.cons_append, List.nil_append]
    refine AW.b rfl (fun hc => ?_) (fun hc => ?_)
    · have e2 := hc
      repeat refine AW.s rfl ?_
      try dsimp only [List.set_cons_zero, List.set_cons_succ, Option.toList_some, Option.toList_none, List.cons_append, List.nil_append]
      exact AW.ri rfl rfl rfl ⟨by unfold wB; rw [if_neg e1, if_pos e2], rfl⟩
    · have e2 := hc
      repeat refine AW.s rfl ?_
      try dsimp only [List.set_cons_zero, List.set_cons_succ, Option.toList_some, Option.toList_none, List.cons_append, List.nil_append]
      exact AW.ri rfl rfl rfl ⟨by unfold wB; rw [if_neg e1, if_neg e2], rfl⟩
theorem c_isSheet {l : Launch} {X : XT} {d : Nat} {v : Int32} {m : Mem} (hd : 1 ≤ d) : Meth l X d M_X10_isSheet [vI v] m (fun r m' => r = some (vI (wB v 3)) ∧ m' = m) := by
  obtain ⟨d, rfl⟩ : ∃ e, d = e + 1 := ⟨d - 1, by omega⟩
  refine E_X10_isSheet (ls := [vI v]) rfl rfl ?_
  repeat refine AW.s rfl ?_
  try dsimp only [List.set_cons_zero, List.set_cons_succ, Option.toList_some, Option.toList_none, List.cons_append, List.nil_append]
  refine AW.S k_10_113 (c_isWithin) rfl rfl rfl rfl (fun r1 m9 hq => ?_)
  obtain ⟨rfl, hm9⟩ := hq
  exact AW.ri rfl rfl (wB_nar _ _) ⟨rfl, hm9⟩
theorem c_isLetter {l : Launch} {X : XT} {d : Nat} {v : Int32} {m : Mem} (hd : 1 ≤ d) : Meth l X d M_X10_isLetter [vI v] m (fun r m' => r = some (vI (wB v 25)) ∧ m' = m) := by
  obtain ⟨d, rfl⟩ : ∃ e, d = e + 1 := ⟨d - 1, by omega⟩
  refine E_X10_isLetter (ls := [vI v]) rfl rfl ?_
  repeat refine AW.s rfl ?_
  try dsimp only [List.set_cons_zero, List.set_cons_succ, Option.toList_some, Option.toList_none, List.cons_append, List.nil_append]
  refine AW.S k_10_113 (c_isWithin) rfl rfl rfl rfl (fun r1 m9 hq => ?_)
  obtain ⟨rfl, hm9⟩ := hq
  exact AW.ri rfl rfl (wB_nar _ _) ⟨rfl, hm9⟩
def rB (k a b : Int32) : Int32 := if wB k 5 = 0 then 0 else if wB a 25 = 0 then 0 else if wB b 25 = 0 then 0 else 1
theorem c_isRule {l : Launch} {X : XT} {d : Nat} {k a b : Int32} {m : Mem} (hd : 2 ≤ d) : Meth l X d M_X10_isRule [vI k, vI a, vI b] m (fun r m' => r = some (vI (rB k a b)) ∧ m' = m) := by
  obtain ⟨d, rfl⟩ : ∃ e, d = e + 1 := ⟨d - 1, by omega⟩
  refine E_X10_isRule (ls := [vI k, vI a, vI b]) rfl rfl ?_
  repeat refine AW.s rfl ?_
  try dsimp only [List.set_cons_zero, List.set_cons_succ, Option.toList_some, Option.toList_none, List.cons_append, List.nil_append]
  refine AW.S k_10_113 (c_isWithin) rfl rfl rfl rfl (fun r1 m9 hq => ?_)
  obtain ⟨rfl, hm9⟩ := hq
  rw [hm9]
  try dsimp only [List.set_cons_zero, List.set_cons_succ, Option.toList_some, Option.toList_none, List.cons_append, List.nil_append]
  refine AW.b rfl (fun hc => ?_) (fun hc => ?_)
  · have e1 := hc
    repeat refine AW.s rfl ?_
    try dsimp only [List.set_cons_zero, List.set_cons_succ, Option.toList_some, Option.toList_none, List.cons_append, List.nil_append]
    exact AW.ri rfl rfl rfl ⟨by unfold rB; rw [if_pos e1], rfl⟩
  · have e1 := hc
    repeat refine AW.s rfl ?_
    try dsimp only [List.set_cons_zero, List.set_cons_succ, Option.toList_some, Option.toList_none, List.cons_append, List.nil_append]
    refine AW.S k_10_319 ((c_isLetter (by omega))) rfl rfl rfl rfl (fun r1 m8 hq => ?_)
    obtain ⟨rfl, hm8⟩ := hq
    rw [hm8]
    try dsimp only [List.set_cons_zero, List.set_cons_succ, Option.toList_some, Option.toList_none, List.cons_append, List.nil_append]
    refine AW.b rfl (fun hc => ?_) (fun hc => ?_)
    · have e2 := hc
      repeat refine AW.s rfl ?_
      try dsimp only [List.set_cons_zero, List.set_cons_succ, Option.toList_some, Option.toList_none, List.cons_append, List.nil_append]
      exact AW.ri rfl rfl rfl ⟨by unfold rB; rw [if_neg e1, if_pos e2], rfl⟩
    · have e2 := hc
      repeat refine AW.s rfl ?_
      try dsimp only [List.set_cons_zero, List.set_cons_succ, Option.toList_some, Option.toList_none, List.cons_append, List.nil_append]
      refine AW.S k_10_319 ((c_isLetter (by omega))) rfl rfl rfl rfl (fun r1 m7 hq => ?_)
      obtain ⟨rfl, hm7⟩ := hq
      rw [hm7]
      try dsimp only [List.set_cons_zero, List.set_cons_succ, Option.toList_some, Option.toList_none, List.cons_append, List.nil_append]
      refine AW.b rfl (fun hc => ?_) (fun hc => ?_)
      · have e3 := hc
        repeat refine AW.s rfl ?_
        try dsimp only [List.set_cons_zero, List.set_cons_succ, Option.toList_some, Option.toList_none, List.cons_append, List.nil_append]
        exact AW.ri rfl rfl rfl ⟨by unfold rB; rw [if_neg e1, if_neg e2, if_pos e3], rfl⟩
      · have e3 := hc
        repeat refine AW.s rfl ?_
        try dsimp only [List.set_cons_zero, List.set_cons_succ, Option.toList_some, Option.toList_none, List.cons_append, List.nil_append]
        exact AW.ri rfl rfl rfl ⟨by unfold rB; rw [if_neg e1, if_neg e2, if_neg e3], rfl⟩
def pB (k : Int32) : Int32 := if k < -1 then 0 else if k < 40 then 1 else 0
theorem c_isSaidPlace {l : Launch} {X : XT} {d : Nat} {k : Int32} {m : Mem} : Meth l X d M_X10_isSaidPlace [vI k] m (fun r m' => r = some (vI (pB k)) ∧ m' = m) := by
  refine E_X10_isSaidPlace (ls := [vI k]) rfl rfl ?_
  repeat refine AW.s rfl ?_
  try dsimp only [List.set_cons_zero, List.set_cons_succ, Option.toList_some, Option.toList_none, List.cons_append, List.nil_append]
  refine AW.b rfl (fun hc => ?_) (fun hc => ?_)
  · have e1 := hc
    repeat refine AW.s rfl ?_
    try dsimp only [List.set_cons_zero, List.set_cons_succ, Option.toList_some, Option.toList_none, List.cons_append, List.nil_append]
    exact AW.ri rfl rfl rfl ⟨by unfold pB; rw [if_pos e1], rfl⟩
  · have e1 := hc
    repeat refine AW.s rfl ?_
    try dsimp only [List.set_cons_zero, List.set_cons_succ, Option.toList_some, Option.toList_none, List.cons_append, List.nil_append]
    refine AW.b rfl (fun hc => ?_) (fun hc => ?_)
    · have e2 := hc
      repeat refine AW.s rfl ?_
      try dsimp only [List.set_cons_zero, List.set_cons_succ, Option.toList_some, Option.toList_none, List.cons_append, List.nil_append]
      exact AW.ri rfl rfl rfl ⟨by unfold pB; rw [if_neg e1, if_pos e2], rfl⟩
    · have e2 := hc
      repeat refine AW.s rfl ?_
      try dsimp only [List.set_cons_zero, List.set_cons_succ, Option.toList_some, Option.toList_none, List.cons_append, List.nil_append]
      exact AW.ri rfl rfl rfl ⟨by unfold pB; rw [if_neg e1, if_neg e2], rfl⟩
def hB (v : Int32) (n : Nat) : Int32 := if v < 0 then 0 else if v < nI n then 1 else 0
theorem hB_nar (v : Int32) (n : Nat) : narrow .boolean (.int (hB v n)) = .int (hB v n) := by
  unfold hB
  split
  · rfl
  · split <;> rfl
theorem hB_1 {v : Int32} {n : Nat} (hn : n < 2 ^ 31) : hB v n = 1 ↔ ∃ j, j < n ∧ v = nI j := by
  unfold hB
  by_cases h0 : v < 0
  · rw [if_pos h0]
    exact ⟨fun h => absurd h (by decide), fun ⟨j, hj, e⟩ => by rw [e] at h0; exact absurd h0 (nI_pos (by omega))⟩
  · rw [if_neg h0]
    obtain ⟨j, hj, rfl⟩ := nI_of h0
    by_cases h1 : j < n
    · rw [if_pos (nI_lt h1 hn)]
      exact ⟨fun _ => ⟨j, h1, rfl⟩, fun _ => rfl⟩
    · rw [if_neg (fun q => h1 ((nI_ltI hj hn).mp q))]
      refine ⟨fun h => absurd h (by decide), fun ⟨q, hq, e⟩ => ?_⟩
      have := (nI_eq hj (by omega)).mp e
      omega
theorem hB_0 {v : Int32} {n : Nat} (h : ¬ hB v n = 1) : hB v n = 0 := by
  unfold hB at h ⊢
  split
  · rfl
  · rename_i h0
    rw [if_neg h0] at h
    split
    · rename_i h1
      rw [if_pos h1] at h
      exact absurd rfl h
    · rfl
theorem c_hasWord {l : Launch} {X : XT} {d : Nat} {v : Int32} {m : Mem} {σ : Sg} (hs : RepS m 1 σ) : Meth l X d M_X7_hasWord [vR 8 1, vI v] m (fun r m' => r = some (vI (hB v (σ 0 1))) ∧ m' = m) := by
  refine E_X7_hasWord (ls := [vR 8 1, vI v]) rfl rfl ?_
  repeat refine AW.s rfl ?_
  try dsimp only [List.set_cons_zero, List.set_cons_succ, Option.toList_some, Option.toList_none, List.cons_append, List.nil_append]
  refine AW.b rfl (fun hc => ?_) (fun hc => ?_)
  · have e1 := hc
    repeat refine AW.s rfl ?_
    try dsimp only [List.set_cons_zero, List.set_cons_succ, Option.toList_some, Option.toList_none, List.cons_append, List.nil_append]
    exact AW.ri rfl rfl rfl ⟨by unfold hB; rw [if_pos e1], rfl⟩
  · have e1 := hc
    repeat refine AW.s rfl ?_
    try dsimp only [List.set_cons_zero, List.set_cons_succ, Option.toList_some, Option.toList_none, List.cons_append, List.nil_append]
    rw [show m 1 4 = nI (σ 0 1) from hs.2.1]
    refine AW.b rfl (fun hc => ?_) (fun hc => ?_)
    · have e2 := hc
      repeat refine AW.s rfl ?_
      try dsimp only [List.set_cons_zero, List.set_cons_succ, Option.toList_some, Option.toList_none, List.cons_append, List.nil_append]
      exact AW.ri rfl rfl rfl ⟨by unfold hB; rw [if_neg e1, if_pos e2], rfl⟩
    · have e2 := hc
      repeat refine AW.s rfl ?_
      try dsimp only [List.set_cons_zero, List.set_cons_succ, Option.toList_some, Option.toList_none, List.cons_append, List.nil_append]
      exact AW.ri rfl rfl rfl ⟨by unfold hB; rw [if_neg e1, if_neg e2], rfl⟩
theorem c_hasRule {l : Launch} {X : XT} {d : Nat} {v : Int32} {m : Mem} {σ : Sg} (hs : RepS m 1 σ) : Meth l X d M_X7_hasRule [vR 8 1, vI v] m (fun r m' => r = some (vI (hB v (σ 0 2))) ∧ m' = m) := by
  refine E_X7_hasRule (ls := [vR 8 1, vI v]) rfl rfl ?_
  repeat refine AW.s rfl ?_
  try dsimp only [List.set_cons_zero, List.set_cons_succ, Option.toList_some, Option.toList_none, List.cons_append, List.nil_append]
  refine AW.b rfl (fun hc => ?_) (fun hc => ?_)
  · have e1 := hc
    repeat refine AW.s rfl ?_
    try dsimp only [List.set_cons_zero, List.set_cons_succ, Option.toList_some, Option.toList_none, List.cons_append, List.nil_append]
    exact AW.ri rfl rfl rfl ⟨by unfold hB; rw [if_pos e1], rfl⟩
  · have e1 := hc
    repeat refine AW.s rfl ?_
    try dsimp only [List.set_cons_zero, List.set_cons_succ, Option.toList_some, Option.toList_none, List.cons_append, List.nil_append]
    rw [show m 1 8 = nI (σ 0 2) from hs.2.2.1]
    refine AW.b rfl (fun hc => ?_) (fun hc => ?_)
    · have e2 := hc
      repeat refine AW.s rfl ?_
      try dsimp only [List.set_cons_zero, List.set_cons_succ, Option.toList_some, Option.toList_none, List.cons_append, List.nil_append]
      exact AW.ri rfl rfl rfl ⟨by unfold hB; rw [if_neg e1, if_pos e2], rfl⟩
    · have e2 := hc
      repeat refine AW.s rfl ?_
      try dsimp only [List.set_cons_zero, List.set_cons_succ, Option.toList_some, Option.toList_none, List.cons_append, List.nil_append]
      exact AW.ri rfl rfl rfl ⟨by unfold hB; rw [if_neg e1, if_neg e2], rfl⟩
theorem c_isMissing {l : Launch} {X : XT} {d : Nat} {h : Nat} {m : Mem} : Meth l X d M_X6_isMissing [vR 7 h] m (fun r m' => r = some (vI (if m h 1 = -1 then 1 else 0)) ∧ m' = m) := by
  refine E_X6_isMissing (ls := [vR 7 h]) rfl rfl ?_
  repeat refine AW.s rfl ?_
  try dsimp only [List.set_cons_zero, List.set_cons_succ, Option.toList_some, Option.toList_none, List.cons_append, List.nil_append]
  refine AW.b rfl (fun hc => ?_) (fun hc => ?_)
  · have e1 := hc
    repeat refine AW.s rfl ?_
    try dsimp only [List.set_cons_zero, List.set_cons_succ, Option.toList_some, Option.toList_none, List.cons_append, List.nil_append]
    exact AW.ri rfl rfl rfl ⟨by rw [if_pos e1], rfl⟩
  · have e1 := hc
    repeat refine AW.s rfl ?_
    try dsimp only [List.set_cons_zero, List.set_cons_succ, Option.toList_some, Option.toList_none, List.cons_append, List.nil_append]
    exact AW.ri rfl rfl rfl ⟨by rw [if_neg e1], rfl⟩
theorem c_Sbecome {l : Launch} {X : XT} {d : Nat} {h : Nat} {s n : Int32} {m : Mem} : Meth l X d M_X6_become [vR 7 h, vI s, vI n] m (fun r m' => r = none ∧ m' h 1 = s ∧ m' h 2 = n ∧ (∀ k, k < 40 → m' (h + 1) k = 0) ∧ ∀ a, a ≠ h → a ≠ h + 1 → m' a = m a) := by
  refine E_X6_become (ls := [vR 7 h, vI s, vI n, vU]) rfl rfl ?_
  repeat refine AW.u 12 rfl rfl ?_
  try dsimp only [List.set_cons_zero, List.set_cons_succ, Option.toList_some, Option.toList_none, List.cons_append, List.nil_append]
  refine AW.loop (pc := 12) (σ := Unit) 40 (fun i _ => [vR 7 h, vI s, vI n, vI (nI i)]) (fun i _ m1 => m1 h 1 = s ∧ m1 h 2 = n ∧ (∀ k, k < i → m1 (h + 1) k = 0) ∧ ∀ a, a ≠ h → a ≠ h + 1 → m1 a = m a) (fun i _ m1 hi hm1 ih => ?_) 0 () _ (Nat.zero_le _) ⟨by rw [mUp_n (Or.inr (by decide)), mUp_s], mUp_s _ _ _ _, fun k hk => absurd hk (by omega), fun a h1 _ => by rw [mUp_a h1, mUp_a h1]⟩
  obtain ⟨q1, q2, q3, q4⟩ := hm1
  repeat refine AW.s rfl ?_
  try dsimp only [List.set_cons_zero, List.set_cons_succ, Option.toList_some, Option.toList_none, List.cons_append, List.nil_append]
  refine AW.b rfl (fun hc => ?_) (fun hc => ?_)
  · have hlt : i < 40 := (nI_ltI (b := 40) (by omega) (by decide)).mp hc
    repeat refine AW.s rfl ?_
    try dsimp only [List.set_cons_zero, List.set_cons_succ, Option.toList_some, Option.toList_none, List.cons_append, List.nil_append]
    refine AW.c rfl (⟨vp_in_nI (by omega) (by decide), fun q => absurd q (by decide)⟩) ?_
    try dsimp only [List.set_cons_zero, List.set_cons_succ, Option.toList_some, Option.toList_none, List.cons_append, List.nil_append]
    rw [nI_clamp (by omega)]
    repeat refine AW.u 12 rfl rfl ?_
    try dsimp only [List.set_cons_zero, List.set_cons_succ, Option.toList_some, Option.toList_none, List.cons_append, List.nil_append]
    rw [nI_1]
    refine ih () _ hlt ⟨by rw [mUp_a (by omega)]; exact q1, by rw [mUp_a (by omega)]; exact q2, fun k hk => ?_, fun a h1 h2 => by rw [mUp_a h2]; exact q4 a h1 h2⟩
    by_cases e : k = i
    · subst e; exact mUp_s _ _ _ _
    · rw [mUp_n (Or.inr e)]; exact q3 k (by omega)
  · have : i = 40 := by
      have : ¬ i < 40 := fun q => hc (nI_lt (b := 40) q (by decide))
      omega
    subst this
    exact AW.rv rfl rfl ⟨rfl, q1, q2, q3, q4⟩
theorem c_becomeSaying {l : Launch} {X : XT} {d : Nat} {h g : Nat} {m : Mem} {xs : List Nat} (hd : 1 ≤ d) (hy : RY m g (some xs)) (ho : WFo (some xs)) (hgh : g + 1 < h ∨ h + 1 < g) : Meth l X d M_X6_becomeSaying [vR 7 h, vR 5 g] m (fun r m' => r = none ∧ m' h 1 = 0 ∧ m' h 2 = nI xs.length ∧ (∀ k, k < 40 → m' (h + 1) k = (match xs[k]? with | some x => nI x | none => 0)) ∧ ∀ a, a ≠ h → a ≠ h + 1 → m' a = m a) := by
  obtain ⟨d, rfl⟩ : ∃ e, d = e + 1 := ⟨d - 1, by omega⟩
  obtain ⟨g1, g2, g3⟩ := ho xs rfl
  refine E_X6_becomeSaying (ls := [vR 7 h, vR 5 g]) rfl rfl ?_
  repeat refine AW.s rfl ?_
  try dsimp only [List.set_cons_zero, List.set_cons_succ, Option.toList_some, Option.toList_none, List.cons_append, List.nil_append]
  rw [hy.1]
  refine AW.V k_6_25 (c_Sbecome) rfl rfl rfl rfl rfl rfl (fun r1 m2 hq => ?_)
  obtain ⟨rfl, q1, q2, q3, q4⟩ := hq
  repeat refine AW.s rfl ?_
  try dsimp only [List.set_cons_zero, List.set_cons_succ, Option.toList_some, Option.toList_none, List.cons_append, List.nil_append]
  rw [q4 g (by omega) (by omega), hy.1]
  refine AW.cpy k_6_32 rfl rfl rfl rfl (by decide) (by decide) (nI_pos (by omega)) ?_ ?_ ?_
  · rw [nI_clamp (by omega)]; show 0 + xs.length ≤ 40; omega
  · rw [nI_clamp (by omega)]; show 0 + xs.length ≤ 40; omega
  rw [nI_clamp (by omega)]
  try dsimp only [List.set_cons_zero, List.set_cons_succ, Option.toList_some, Option.toList_none, List.cons_append, List.nil_append]
  refine AW.rv rfl rfl ⟨rfl, by rw [mSr_n (by omega)]; exact q1, by rw [mSr_n (by omega)]; exact q2, fun k hk => ?_, fun a h1 h2 => by rw [mSr_n h2]; exact q4 a h1 h2⟩
  rw [mSr_s, show (0 : Int32).toNatClampNeg = 0 from rfl]
  cases hx : xs[k]? with
  | some x =>
    have hk1 := (List.getElem?_eq_some_iff.mp hx).1
    rw [pk_cpy_in (Nat.zero_le _) (by omega), show 0 + (k - 0) = k by omega, q4 (g + 1) (by omega) (by omega)]
    exact hy.2 k x hx
  | none =>
    have hk1 : xs.length ≤ k := by
      rcases Nat.lt_or_ge k xs.length with q | q
      · rw [List.getElem?_eq_getElem q] at hx; cases hx
      · exact q
    rw [pk_cpy_out (Or.inr (by omega))]
    exact q3 k hk
theorem c_Shold {l : Launch} {X : XT} {d : Nat} {h : Nat} {i n : Int32} {m : Mem} : Meth l X d M_X6_holds [vR 7 h, vI i, vI n] m (fun r m' => r = some (vI (if i < 0 then 0 else if n < 0 then 0 else if m h 2 < i then 0 else if m h 2 - i < n then 0 else 1)) ∧ m' = m) := by
  refine E_X6_holds (ls := [vR 7 h, vI i, vI n]) rfl rfl ?_
  repeat refine AW.s rfl ?_
  try dsimp only [List.set_cons_zero, List.set_cons_succ, Option.toList_some, Option.toList_none, List.cons_append, List.nil_append]
  refine AW.b rfl (fun hc => ?_) (fun hc => ?_)
  · have e1 := hc
    repeat refine AW.s rfl ?_
    try dsimp only [List.set_cons_zero, List.set_cons_succ, Option.toList_some, Option.toList_none, List.cons_append, List.nil_append]
    exact AW.ri rfl rfl rfl ⟨by rw [if_pos e1], rfl⟩
  · have e1 := hc
    repeat refine AW.s rfl ?_
    try dsimp only [List.set_cons_zero, List.set_cons_succ, Option.toList_some, Option.toList_none, List.cons_append, List.nil_append]
    refine AW.b rfl (fun hc => ?_) (fun hc => ?_)
    · have e2 := hc
      repeat refine AW.s rfl ?_
      try dsimp only [List.set_cons_zero, List.set_cons_succ, Option.toList_some, Option.toList_none, List.cons_append, List.nil_append]
      exact AW.ri rfl rfl rfl ⟨by rw [if_neg e1, if_pos e2], rfl⟩
    · have e2 := hc
      repeat refine AW.s rfl ?_
      try dsimp only [List.set_cons_zero, List.set_cons_succ, Option.toList_some, Option.toList_none, List.cons_append, List.nil_append]
      refine AW.b rfl (fun hc => ?_) (fun hc => ?_)
      · have e3 := hc
        repeat refine AW.s rfl ?_
        try dsimp only [List.set_cons_zero, List.set_cons_succ, Option.toList_some, Option.toList_none, List.cons_append, List.nil_append]
        exact AW.ri rfl rfl rfl ⟨by rw [if_neg e1, if_neg e2, if_pos e3], rfl⟩
      · have e3 := hc
        repeat refine AW.s rfl ?_
        try dsimp only [List.set_cons_zero, List.set_cons_succ, Option.toList_some, Option.toList_none, List.cons_append, List.nil_append]
        refine AW.b rfl (fun hc => ?_) (fun hc => ?_)
        · have e4 := hc
          repeat refine AW.s rfl ?_
          try dsimp only [List.set_cons_zero, List.set_cons_succ, Option.toList_some, Option.toList_none, List.cons_append, List.nil_append]
          exact AW.ri rfl rfl rfl ⟨by rw [if_neg e1, if_neg e2, if_neg e3, if_pos e4], rfl⟩
        · have e4 := hc
          repeat refine AW.s rfl ?_
          try dsimp only [List.set_cons_zero, List.set_cons_succ, Option.toList_some, Option.toList_none, List.cons_append, List.nil_append]
          exact AW.ri rfl rfl rfl ⟨by rw [if_neg e1, if_neg e2, if_neg e3, if_neg e4], rfl⟩
/-- a sheet of n items tells just this saying -/
def telO (g : Nat → Int32) (n : Nat) (o : Option (List Nat)) : Prop := ∃ xs, o = some xs ∧ xs.length = n ∧ RLn g xs
theorem c_Stells {l : Launch} {X : XT} {d : Nat} {h g n : Nat} {m : Mem} {o : Option (List Nat)} (hd : 1 ≤ d) (hn : m h 2 = nI n) (hn40 : n ≤ 40) (hy : RY m g o) (ho : WFo o) : Meth l X d M_X6_tells [vR 7 h, vR 5 g] m (fun r m' => ∃ b : Bool, r = some (vI (if b then 1 else 0)) ∧ (b = true ↔ telO (m (h + 1)) n o) ∧ m' = m) := by
  obtain ⟨d, rfl⟩ : ∃ e, d = e + 1 := ⟨d - 1, by omega⟩
  refine E_X6_tells (ls := [vR 7 h, vR 5 g, vU]) rfl rfl ?_
  repeat refine AW.s rfl ?_
  try dsimp only [List.set_cons_zero, List.set_cons_succ, Option.toList_some, Option.toList_none, List.cons_append, List.nil_append]
  refine AW.V k_6_42 (c_isTooLong) rfl rfl rfl rfl rfl rfl (fun r1 m9 hq => ?_)
  obtain ⟨rfl, hm9⟩ := hq
  rw [hm9]
  try dsimp only [List.set_cons_zero, List.set_cons_succ, Option.toList_some, Option.toList_none, List.cons_append, List.nil_append]
  cases o with
  | none =>
    rw [if_pos (show m g 1 = -1 from hy)]
    refine AW.b rfl (fun hc => ?_) (fun hc => ?_)
    · exact absurd hc (by decide)
    · repeat refine AW.s rfl ?_
      try dsimp only [List.set_cons_zero, List.set_cons_succ, Option.toList_some, Option.toList_none, List.cons_append, List.nil_append]
      exact AW.ri rfl rfl rfl ⟨false, rfl, ⟨fun q => (by cases q), fun ⟨xs, e, _⟩ => (by cases e)⟩, rfl⟩
  | some xs =>
    obtain ⟨g1, g2, g3⟩ := ho xs rfl
    rw [if_neg (show ¬ m g 1 = -1 by rw [hy.1]; exact nI_m1 (by omega))]
    refine AW.b rfl (fun hc => ?_) (fun hc => ?_)
    · repeat refine AW.s rfl ?_
      try dsimp only [List.set_cons_zero, List.set_cons_succ, Option.toList_some, Option.toList_none, List.cons_append, List.nil_append]
      rw [hy.1, hn]
      refine AW.b rfl (fun hc => ?_) (fun hc => ?_)
      · have hlen : xs.length = n := (nI_eq (by omega) (by omega)).mp hc
        repeat refine AW.u 22 rfl rfl ?_
        try dsimp only [List.set_cons_zero, List.set_cons_succ, Option.toList_some, Option.toList_none, List.cons_append, List.nil_append]
        refine AW.loop (pc := 22) (σ := Unit) n (fun i _ => [vR 7 h, vR 5 g, vI (nI i)]) (fun i _ m1 => m1 = m ∧ ∀ k x, k < i → xs[k]? = some x → m (h + 1) k = nI x) (fun i _ m1 hi hm1 ih => ?_) 0 () m (Nat.zero_le _) ⟨rfl, fun k x hk => absurd hk (by omega)⟩
        obtain ⟨rfl, hall⟩ := hm1
        repeat refine AW.s rfl ?_
        try dsimp only [List.set_cons_zero, List.set_cons_succ, Option.toList_some, Option.toList_none, List.cons_append, List.nil_append]
        rw [hn]
        refine AW.b rfl (fun hc => ?_) (fun hc => ?_)
        · have hlt : i < n := (nI_ltI (by omega) (by omega)).mp hc
          obtain ⟨x, hx⟩ : ∃ x, xs[i]? = some x := ⟨_, List.getElem?_eq_getElem (by omega)⟩
          repeat refine AW.s rfl ?_
          try dsimp only [List.set_cons_zero, List.set_cons_succ, Option.toList_some, Option.toList_none, List.cons_append, List.nil_append]
          refine AW.c rfl (vp_in_nI (by omega) (by decide)) ?_
          try dsimp only [List.set_cons_zero, List.set_cons_succ, Option.toList_some, Option.toList_none, List.cons_append, List.nil_append]
          rw [nI_clamp (by omega)]
          repeat refine AW.s rfl ?_
          try dsimp only [List.set_cons_zero, List.set_cons_succ, Option.toList_some, Option.toList_none, List.cons_append, List.nil_append]
          refine AW.c rfl (vp_in_nI (by omega) (by decide)) ?_
          try dsimp only [List.set_cons_zero, List.set_cons_succ, Option.toList_some, Option.toList_none, List.cons_append, List.nil_append]
          rw [nI_clamp (by omega), hy.2 i x hx]
          refine AW.b rfl (fun hc => ?_) (fun hc => ?_)
          · have e := hc
            repeat refine AW.u 22 rfl rfl ?_
            try dsimp only [List.set_cons_zero, List.set_cons_succ, Option.toList_some, Option.toList_none, List.cons_append, List.nil_append]
            rw [nI_1]
            refine ih () _ hlt ⟨rfl, fun k y hk hky => ?_⟩
            by_cases e2 : k = i
            · subst e2; rw [hx] at hky; cases hky; exact e
            · exact hall k y (by omega) hky
          · have e := hc
            repeat refine AW.s rfl ?_
            try dsimp only [List.set_cons_zero, List.set_cons_succ, Option.toList_some, Option.toList_none, List.cons_append, List.nil_append]
            refine AW.ri rfl rfl rfl ⟨false, rfl, ⟨fun q => (by cases q), fun ⟨ys, e2, _, e4⟩ => ?_⟩, rfl⟩
            cases e2
            exact absurd (e4 i x hx) e
        · have : i = n := by
            have : ¬ i < n := fun q => hc ((nI_ltI (by omega) (by omega)).mpr q)
            omega
          subst this
          repeat refine AW.s rfl ?_
          try dsimp only [List.set_cons_zero, List.set_cons_succ, Option.toList_some, Option.toList_none, List.cons_append, List.nil_append]
          exact AW.ri rfl rfl rfl ⟨true, rfl, ⟨fun _ => ⟨xs, rfl, hlen, fun k x hk => hall k x (by have := (List.getElem?_eq_some_iff.mp hk).1; omega) hk⟩, fun _ => rfl⟩, rfl⟩
      · have hne := hc
        repeat refine AW.s rfl ?_
        try dsimp only [List.set_cons_zero, List.set_cons_succ, Option.toList_some, Option.toList_none, List.cons_append, List.nil_append]
        refine AW.ri rfl rfl rfl ⟨false, rfl, ⟨fun q => (by cases q), fun ⟨ys, e2, e3, _⟩ => ?_⟩, rfl⟩
        cases e2
        exact absurd (by rw [e3]) hne
    · exact absurd rfl hc
