theorem sU_s {σ : Sg} {a k v : Nat} : sU σ a k v a k = v := if_pos ⟨rfl, rfl⟩
theorem sU_n {σ : Sg} {a k v a' k' : Nat} (h : a' ≠ a ∨ k' ≠ k) : sU σ a k v a' k' = σ a' k' := if_neg (fun q => by omega)
theorem c_letterOf {l : Launch} {X : XT} {d : Nat} {S w k : Nat} {m : Mem} {σ : Sg} (hs : RepS m S σ) (hσ : WF σ) (hw : w < σ 0 1) (hk : k < 100) : Meth l X d M_X7_letterOf [vR 8 S, vI (nI w), vI (nI k)] m (fun r m' => r = some (vI (if k < σ 1 w then nI (σ (10 + w) k) else -1)) ∧ m' = m) := by
  have hw8 : w < 8 := Nat.lt_of_lt_of_le hw hσ.2.1
  obtain ⟨z1, z2, -⟩ := hσ.2.2.2.2.2.1 w hw
  obtain ⟨y1, -, y3⟩ := hs.2.2.2.2.1 w hw
  refine E_X7_letterOf (ls := [vR 8 S, vI (nI w), vI (nI k)]) rfl rfl ?_
  repeat refine AW.s rfl ?_
  try dsimp only [List.set_cons_zero, List.set_cons_succ, Option.toList_some, Option.toList_none, List.cons_append, List.nil_append]
  refine AW.c rfl (vp_in_nI (by omega) (by decide)) ?_
  try dsimp only [List.set_cons_zero, List.set_cons_succ, Option.toList_some, Option.toList_none, List.cons_append, List.nil_append]
  rw [nI_clamp (by omega), y1]
  refine AW.b rfl (fun hc => ?_) (fun hc => ?_)
  · have hlt : k < σ 1 w := (nI_ltI (by omega) (by omega)).mp hc
    rw [if_pos hlt]
    repeat refine AW.s rfl ?_
    try dsimp only [List.set_cons_zero, List.set_cons_succ, Option.toList_some, Option.toList_none, List.cons_append, List.nil_append]
    refine AW.c rfl (vp_in_nI (by omega) (by decide)) ?_
    try dsimp only [List.set_cons_zero, List.set_cons_succ, Option.toList_some, Option.toList_none, List.cons_append, List.nil_append]
    rw [nI_clamp (by omega)]
    repeat refine AW.s rfl ?_
    try dsimp only [List.set_cons_zero, List.set_cons_succ, Option.toList_some, Option.toList_none, List.cons_append, List.nil_append]
    refine AW.c rfl (vp_in_nI (by omega) (by decide)) ?_
    try dsimp only [List.set_cons_zero, List.set_cons_succ, Option.toList_some, Option.toList_none, List.cons_append, List.nil_append]
    rw [nI_clamp (by omega), show S + 1 + 1 + 1 * w = S + 2 + w by omega, y3 k hlt]
    repeat refine AW.s rfl ?_
    try dsimp only [List.set_cons_zero, List.set_cons_succ, Option.toList_some, Option.toList_none, List.cons_append, List.nil_append]
    exact AW.ri rfl rfl rfl ⟨rfl, rfl⟩
  · have hlt : ¬ k < σ 1 w := fun q => hc (nI_lt q (by omega))
    rw [if_neg hlt]
    repeat refine AW.s rfl ?_
    try dsimp only [List.set_cons_zero, List.set_cons_succ, Option.toList_some, Option.toList_none, List.cons_append, List.nil_append]
    exact AW.ri rfl rfl rfl ⟨rfl, rfl⟩
/-- with a rule more -/
def addR (σ : Sg) (k l n : Nat) : Sg := sU (sU (sU (sU σ 3 (σ 0 2) k) 4 (σ 0 2) l) 5 (σ 0 2) n) 0 2 (σ 0 2 + 1)
theorem nI_s1 {n : Nat} : nI (n + 1) - 1 = nI n := by rw [← nI_1]; exact Int32.add_sub_cancel _ _
theorem c_addRule {l : Launch} {X : XT} {d : Nat} {S k j n : Nat} {m : Mem} {σ : Sg} (hs : RepS m S σ) (hσ : WF σ) (h6 : σ 0 2 < 6) : Meth l X d M_X7_addRule [vR 8 S, vI (nI k), vI (nI j), vI (nI n)] m (fun r m' => r = some (vI (nI (σ 0 2))) ∧ RepS m' S (addR σ k j n) ∧ ∀ a, a ≠ S → a ≠ S + 12 → a ≠ S + 13 → a ≠ S + 14 → m' a = m a) := by
  obtain ⟨h1, h2, h3, h4, h5, h7, h8, h9⟩ := hs
  refine E_X7_addRule (ls := [vR 8 S, vI (nI k), vI (nI j), vI (nI n)]) rfl rfl ?_
  repeat refine AW.s rfl ?_
  try dsimp only [List.set_cons_zero, List.set_cons_succ, Option.toList_some, Option.toList_none, List.cons_append, List.nil_append]
  rw [h3]
  refine AW.c rfl (⟨vp_in_nI (by omega) (by decide), fun z => absurd z (by decide)⟩) ?_
  try dsimp only [List.set_cons_zero, List.set_cons_succ, Option.toList_some, Option.toList_none, List.cons_append, List.nil_append]
  rw [nI_clamp (by omega)]
  repeat refine AW.s rfl ?_
  try dsimp only [List.set_cons_zero, List.set_cons_succ, Option.toList_some, Option.toList_none, List.cons_append, List.nil_append]
  rw [mUp_a (by omega), h3]
  refine AW.c rfl (⟨vp_in_nI (by omega) (by decide), fun z => absurd z (by decide)⟩) ?_
  try dsimp only [List.set_cons_zero, List.set_cons_succ, Option.toList_some, Option.toList_none, List.cons_append, List.nil_append]
  rw [nI_clamp (by omega)]
  repeat refine AW.s rfl ?_
  try dsimp only [List.set_cons_zero, List.set_cons_succ, Option.toList_some, Option.toList_none, List.cons_append, List.nil_append]
  rw [mUp_a (by omega), mUp_a (by omega), h3]
  refine AW.c rfl (⟨vp_in_nI (by omega) (by decide), fun z => absurd z (by decide)⟩) ?_
  try dsimp only [List.set_cons_zero, List.set_cons_succ, Option.toList_some, Option.toList_none, List.cons_append, List.nil_append]
  rw [nI_clamp (by omega)]
  repeat refine AW.s rfl ?_
  try dsimp only [List.set_cons_zero, List.set_cons_succ, Option.toList_some, Option.toList_none, List.cons_append, List.nil_append]
  rw [mUp_s, mUp_a (by omega), mUp_a (by omega), mUp_a (by omega), h3, nI_1, nI_s1]
  refine AW.ri rfl rfl rfl ⟨rfl, ?_, fun a e1 e2 e3 e4 => by rw [mUp_a e1, mUp_a e4, mUp_a e3, mUp_a e2]⟩
  have g2 : addR σ k j n 0 2 = σ 0 2 + 1 := sU_s
  have gn : ∀ a i, a ≠ 3 → a ≠ 4 → a ≠ 5 → (a ≠ 0 ∨ i ≠ 2) → addR σ k j n a i = σ a i := fun a i e1 e2 e3 e4 => by unfold addR; rw [sU_n e4, sU_n (Or.inl e3), sU_n (Or.inl e2), sU_n (Or.inl e1)]
  have fm : ∀ a, a ≠ S → a ≠ S + 12 → a ≠ S + 13 → a ≠ S + 14 → mUp (mUp (mUp (mUp m (S + 12) (σ 0 2) (nI k)) (S + 13) (σ 0 2) (nI j)) (S + 14) (σ 0 2) (nI n)) S 8 (nI (σ 0 2 + 1)) a = m a := fun a e1 e2 e3 e4 => by rw [mUp_a e1, mUp_a e4, mUp_a e3, mUp_a e2]
  have fS : ∀ i, i ≠ 8 → mUp (mUp (mUp (mUp m (S + 12) (σ 0 2) (nI k)) (S + 13) (σ 0 2) (nI j)) (S + 14) (σ 0 2) (nI n)) S 8 (nI (σ 0 2 + 1)) S i = m S i := fun i e => by rw [mUp_n (Or.inr e), mUp_a (by omega), mUp_a (by omega), mUp_a (by omega)]
  have hw8 := hσ.2.1
  unfold RepS
  rw [gn 0 0 (by decide) (by decide) (by decide) (by decide), gn 0 1 (by decide) (by decide) (by decide) (by decide), gn 0 3 (by decide) (by decide) (by decide) (by decide), gn 0 4 (by decide) (by decide) (by decide) (by decide), g2, fS 0 (by decide), fS 4 (by decide), fS 10 (by decide), mUp_s, fm (S + 15) (by omega) (by omega) (by omega) (by omega), fm (S + 16) (by omega) (by omega) (by omega) (by omega), fm (S + 10) (by omega) (by omega) (by omega) (by omega), fm (S + 11) (by omega) (by omega) (by omega) (by omega)]
  refine ⟨h1, h2, rfl, h4, fun w hw => ?_, fun r hr => ?_, h8, fun i hi => ?_⟩
  · rw [fm (S + 2 + w) (by omega) (by omega) (by omega) (by omega), gn 1 w (by decide) (by decide) (by decide) (Or.inl (by decide)), gn 2 w (by decide) (by decide) (by decide) (Or.inl (by decide))]
    refine ⟨(h5 w hw).1, (h5 w hw).2.1, fun i hi => ?_⟩
    rw [gn (10 + w) i (by omega) (by omega) (by omega) (by omega)]
    exact (h5 w hw).2.2 i hi
  · unfold addR
    by_cases e : r = σ 0 2
    · subst e
      refine ⟨?_, ?_, ?_⟩
      · rw [mUp_a (by omega), mUp_a (by omega), mUp_a (by omega), mUp_s, sU_n (Or.inl (by decide)), sU_n (Or.inl (by decide)), sU_n (Or.inl (by decide)), sU_s]
      · rw [mUp_a (by omega), mUp_a (by omega), mUp_s, sU_n (Or.inl (by decide)), sU_n (Or.inl (by decide)), sU_s]
      · rw [mUp_a (by omega), mUp_s, sU_n (Or.inl (by decide)), sU_s]
    · obtain ⟨y1, y2, y3⟩ := h7 r (by omega)
      refine ⟨?_, ?_, ?_⟩
      · rw [mUp_a (by omega), mUp_a (by omega), mUp_a (by omega), mUp_n (Or.inr e), sU_n (Or.inl (by decide)), sU_n (Or.inl (by decide)), sU_n (Or.inl (by decide)), sU_n (Or.inr e)]; exact y1
      · rw [mUp_a (by omega), mUp_a (by omega), mUp_n (Or.inr e), mUp_a (by omega), sU_n (Or.inl (by decide)), sU_n (Or.inl (by decide)), sU_n (Or.inr e), sU_n (Or.inl (by decide))]; exact y2
      · rw [mUp_a (by omega), mUp_n (Or.inr e), mUp_a (by omega), mUp_a (by omega), sU_n (Or.inl (by decide)), sU_n (Or.inr e), sU_n (Or.inl (by decide)), sU_n (Or.inl (by decide))]; exact y3
  · rw [gn 6 i (by decide) (by decide) (by decide) (Or.inl (by decide))]
    exact h9 i hi
theorem c_empty {l : Launch} {X : XT} {d : Nat} {T : Nat} {m : Mem} : Meth l X d M_X9_empty [vR 10 T] m (fun r m' => r = none ∧ m' = mUp m T 5 0) := by
  refine E_X9_empty (ls := [vR 10 T]) rfl rfl ?_
  repeat refine AW.s rfl ?_
  try dsimp only [List.set_cons_zero, List.set_cons_succ, Option.toList_some, Option.toList_none, List.cons_append, List.nil_append]
  exact AW.rv rfl rfl ⟨rfl, rfl⟩
theorem c_endPart {l : Launch} {X : XT} {d : Nat} {T p : Nat} {m : Mem} (hp : p < 3) : Meth l X d M_X9_endPart [vR 10 T, vI (nI p)] m (fun r m' => r = none ∧ m' = mUp m (T + 5) p (m T 5)) := by
  refine E_X9_endPart (ls := [vR 10 T, vI (nI p)]) rfl rfl ?_
  repeat refine AW.s rfl ?_
  try dsimp only [List.set_cons_zero, List.set_cons_succ, Option.toList_some, Option.toList_none, List.cons_append, List.nil_append]
  refine AW.c rfl (⟨vp_in_nI (by omega) (by decide), fun z => absurd z (by decide)⟩) ?_
  try dsimp only [List.set_cons_zero, List.set_cons_succ, Option.toList_some, Option.toList_none, List.cons_append, List.nil_append]
  rw [nI_clamp (by omega)]
  repeat refine AW.s rfl ?_
  try dsimp only [List.set_cons_zero, List.set_cons_succ, Option.toList_some, Option.toList_none, List.cons_append, List.nil_append]
  exact AW.rv rfl rfl ⟨rfl, rfl⟩
theorem c_add {l : Launch} {X : XT} {d : Nat} {T s : Nat} {o a b : Int32} {m : Mem} (hs : m T 5 = nI s) (h160 : s ≤ 160) : Meth l X d M_X9_add [vR 10 T, vI o, vI a, vI b] m (fun r m' => (s = 160 ∧ r = some (vI (-1)) ∧ m' = m) ∨ (s < 160 ∧ r = some (vI (nI s)) ∧ m' = mUp (mUp (mUp (mUp m (T + 1) s o) (T + 2) s a) (T + 3) s b) T 5 (nI (s + 1)))) := by
  refine E_X9_add (ls := [vR 10 T, vI o, vI a, vI b]) rfl rfl ?_
  repeat refine AW.s rfl ?_
  try dsimp only [List.set_cons_zero, List.set_cons_succ, Option.toList_some, Option.toList_none, List.cons_append, List.nil_append]
  rw [hs]
  refine AW.b rfl (fun hc => ?_) (fun hc => ?_)
  · have hlt : s < 160 := (nI_ltI (b := 160) (by omega) (by decide)).mp hc
    repeat refine AW.s rfl ?_
    try dsimp only [List.set_cons_zero, List.set_cons_succ, Option.toList_some, Option.toList_none, List.cons_append, List.nil_append]
    rw [hs]
    refine AW.c rfl (⟨vp_in_nI (by omega) (by decide), fun z => absurd z (by decide)⟩) ?_
    try dsimp only [List.set_cons_zero, List.set_cons_succ, Option.toList_some, Option.toList_none, List.cons_append, List.nil_append]
    rw [nI_clamp (by omega)]
    repeat refine AW.s rfl ?_
    try dsimp only [List.set_cons_zero, List.set_cons_succ, Option.toList_some, Option.toList_none, List.cons_append, List.nil_append]
    rw [mUp_a (by omega), hs]
    refine AW.c rfl (⟨vp_in_nI (by omega) (by decide), fun z => absurd z (by decide)⟩) ?_
    try dsimp only [List.set_cons_zero, List.set_cons_succ, Option.toList_some, Option.toList_none, List.cons_append, List.nil_append]
    rw [nI_clamp (by omega)]
    repeat refine AW.s rfl ?_
    try dsimp only [List.set_cons_zero, List.set_cons_succ, Option.toList_some, Option.toList_none, List.cons_append, List.nil_append]
    rw [mUp_a (by omega), mUp_a (by omega), hs]
    refine AW.c rfl (⟨vp_in_nI (by omega) (by decide), fun z => absurd z (by decide)⟩) ?_
    try dsimp only [List.set_cons_zero, List.set_cons_succ, Option.toList_some, Option.toList_none, List.cons_append, List.nil_append]
    rw [nI_clamp (by omega)]
    repeat refine AW.s rfl ?_
    try dsimp only [List.set_cons_zero, List.set_cons_succ, Option.toList_some, Option.toList_none, List.cons_append, List.nil_append]
    rw [mUp_s, mUp_a (by omega), mUp_a (by omega), mUp_a (by omega), hs, nI_1, nI_s1]
    exact AW.ri rfl rfl rfl (Or.inr ⟨hlt, rfl, rfl⟩)
  · have hge : s = 160 := by
      have : ¬ s < 160 := fun q => hc (nI_lt (b := 160) q (by decide))
      omega
    repeat refine AW.s rfl ?_
    try dsimp only [List.set_cons_zero, List.set_cons_succ, Option.toList_some, Option.toList_none, List.cons_append, List.nil_append]
    exact AW.ri rfl rfl rfl (Or.inl ⟨hge, rfl, rfl⟩)
theorem c_tellsWord {l : Launch} {X : XT} {d : Nat} {h n : Nat} {m : Mem} (hd : 2 ≤ d) (hn : m h 2 = nI n) (hn40 : n ≤ 40) : Meth l X d M_X6_tellsWord [vR 7 h] m (fun r m' => ∃ b : Bool, r = some (vI (if b then 1 else 0)) ∧ (b = true ↔ 1 ≤ n ∧ n ≤ 10 ∧ ∀ k, k < n → wB (m (h + 1) k) 25 = 1) ∧ m' = m) := by
  obtain ⟨d, rfl⟩ : ∃ e, d = e + 1 := ⟨d - 1, by omega⟩
  refine E_X6_tellsWord (ls := [vR 7 h, vU]) rfl rfl ?_
  repeat refine AW.s rfl ?_
  try dsimp only [List.set_cons_zero, List.set_cons_succ, Option.toList_some, Option.toList_none, List.cons_append, List.nil_append]
  rw [hn]
  refine AW.b rfl (fun hc => ?_) (fun hc => ?_)
  · have hn0 : n = 0 := by
      have := (nI_ltI (b := 1) (by omega) (by decide)).mp hc
      omega
    repeat refine AW.s rfl ?_
    try dsimp only [List.set_cons_zero, List.set_cons_succ, Option.toList_some, Option.toList_none, List.cons_append, List.nil_append]
    exact AW.ri rfl rfl rfl ⟨false, rfl, ⟨fun z => (by cases z), fun z => absurd z.1 (by omega)⟩, rfl⟩
  · have hn1 : 1 ≤ n := by
      have : ¬ n < 1 := fun q => hc (nI_lt (b := 1) q (by decide))
      omega
    repeat refine AW.s rfl ?_
    try dsimp only [List.set_cons_zero, List.set_cons_succ, Option.toList_some, Option.toList_none, List.cons_append, List.nil_append]
    rw [hn]
    refine AW.b rfl (fun hc => ?_) (fun hc => ?_)
    · have hn10 : 10 < n := (nI_ltI (a := 10) (by decide) (by omega)).mp hc
      repeat refine AW.s rfl ?_
      try dsimp only [List.set_cons_zero, List.set_cons_succ, Option.toList_some, Option.toList_none, List.cons_append, List.nil_append]
      exact AW.ri rfl rfl rfl ⟨false, rfl, ⟨fun z => (by cases z), fun z => absurd z.2.1 (by omega)⟩, rfl⟩
    · have hn10 : n ≤ 10 := by
        have : ¬ 10 < n := fun q => hc (nI_lt (a := 10) q (by omega))
        omega
      repeat refine AW.u 21 rfl rfl ?_
      try dsimp only [List.set_cons_zero, List.set_cons_succ, Option.toList_some, Option.toList_none, List.cons_append, List.nil_append]
      refine AW.loop (pc := 21) (σ := Unit) n (fun i _ => [vR 7 h, vI (nI i)]) (fun i _ m1 => m1 = m ∧ ∀ k, k < i → wB (m (h + 1) k) 25 = 1) (fun i _ m1 hi hm1 ih => ?_) 0 () m (Nat.zero_le _) ⟨rfl, fun k hk => absurd hk (by omega)⟩
      obtain ⟨rfl, hall⟩ := hm1
      repeat refine AW.s rfl ?_
      try dsimp only [List.set_cons_zero, List.set_cons_succ, Option.toList_some, Option.toList_none, List.cons_append, List.nil_append]
      rw [hn]
      refine AW.b rfl (fun hc => ?_) (fun hc => ?_)
      · have hlt : i < n := (nI_ltI (by omega) (by omega)).mp hc
        repeat refine AW.s rfl ?_
        try dsimp only [List.set_cons_zero, List.set_cons_succ, Option.toList_some, Option.toList_none, List.cons_append, List.nil_append]
        refine AW.c rfl (vp_in_nI (by omega) (by decide)) ?_
        try dsimp only [List.set_cons_zero, List.set_cons_succ, Option.toList_some, Option.toList_none, List.cons_append, List.nil_append]
        rw [nI_clamp (by omega)]
        refine AW.N k_6_38 ((c_isLetter (by omega))) rfl rfl rfl rfl (fun r1 m9 hq => ?_)
        obtain ⟨rfl, hm9⟩ := hq
        rw [hm9]
        try dsimp only [List.set_cons_zero, List.set_cons_succ, Option.toList_some, Option.toList_none, List.cons_append, List.nil_append]
        by_cases q : wB (m1 (h + 1) i) 25 = 1
        · rw [q]
          refine AW.b rfl (fun hc => ?_) (fun hc => ?_)
          · exact absurd hc (by decide)
          · repeat refine AW.u 21 rfl rfl ?_
            try dsimp only [List.set_cons_zero, List.set_cons_succ, Option.toList_some, Option.toList_none, List.cons_append, List.nil_append]
            rw [nI_1]
            refine ih () _ hlt ⟨rfl, fun k hk => ?_⟩
            by_cases e : k = i
            · subst e; exact q
            · exact hall k (by omega)
        · have q0 : wB (m1 (h + 1) i) 25 = 0 := by
            unfold wB at *
            split
            · rfl
            · split
              · rfl
              · exfalso; apply q; rw [if_neg (by assumption), if_neg (by assumption)]
          rw [q0]
          refine AW.b rfl (fun hc => ?_) (fun hc => ?_)
          · repeat refine AW.s rfl ?_
            try dsimp only [List.set_cons_zero, List.set_cons_succ, Option.toList_some, Option.toList_none, List.cons_append, List.nil_append]
            exact AW.ri rfl rfl rfl ⟨false, rfl, ⟨fun z => (by cases z), fun z => absurd (z.2.2 i hlt) q⟩, rfl⟩
          · exact absurd rfl hc
      · have : i = n := by
          have : ¬ i < n := fun q => hc ((nI_ltI (by omega) (by omega)).mpr q)
          omega
        subst this
        repeat refine AW.s rfl ?_
        try dsimp only [List.set_cons_zero, List.set_cons_succ, Option.toList_some, Option.toList_none, List.cons_append, List.nil_append]
        exact AW.ri rfl rfl rfl ⟨true, rfl, ⟨fun _ => ⟨hn1, hn10, hall⟩, fun _ => rfl⟩, rfl⟩
