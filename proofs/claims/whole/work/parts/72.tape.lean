theorem c_Tput {l : Launch} {X : XT} {d : Nat} {s : Nat} {v : Int32} {m : Mem} (hs : m 36 1 = nI s) (hs1 : s ≤ 160) : Meth l X d M_X8_put [vR 9 36, vI v] m (fun r m' => r = none ∧ m' = if s < 160 then mUp (mUp m 37 s v) 36 1 (nI (s + 1)) else m) := by
  refine E_X8_put (ls := [vR 9 36, vI v]) rfl rfl ?_
  repeat refine AW.s rfl ?_
  try dsimp only [List.set_cons_zero, List.set_cons_succ, Option.toList_some, Option.toList_none, List.cons_append, List.nil_append]
  rw [hs]
  refine AW.b rfl (fun hc => ?_) (fun hc => ?_)
  · have hlt : s < 160 := (nI_ltI (b := 160) (by omega) (by decide)).mp hc
    rw [if_pos hlt]
    repeat refine AW.s rfl ?_
    try dsimp only [List.set_cons_zero, List.set_cons_succ, Option.toList_some, Option.toList_none, List.cons_append, List.nil_append]
    rw [hs]
    refine AW.c rfl (⟨vp_in_nI (by omega) (by decide), fun z => absurd z (by decide)⟩) ?_
    try dsimp only [List.set_cons_zero, List.set_cons_succ, Option.toList_some, Option.toList_none, List.cons_append, List.nil_append]
    rw [nI_clamp (by omega)]
    repeat refine AW.s rfl ?_
    try dsimp only [List.set_cons_zero, List.set_cons_succ, Option.toList_some, Option.toList_none, List.cons_append, List.nil_append]
    rw [mUp_a (by decide), hs, nI_1]
    exact AW.rv rfl rfl ⟨rfl, rfl⟩
  · have hge : ¬ s < 160 := fun q => hc (nI_lt (b := 160) q (by decide))
    rw [if_neg hge]
    repeat refine AW.s rfl ?_
    try dsimp only [List.set_cons_zero, List.set_cons_succ, Option.toList_some, Option.toList_none, List.cons_append, List.nil_append]
    exact AW.rv rfl rfl ⟨rfl, rfl⟩
theorem c_addToken {l : Launch} {X : XT} {d : Nat} {t : Nat} {a b c e : Int32} {m : Mem} (ht : m 36 5 = nI t) (ht1 : t ≤ 160) : Meth l X d M_X8_addToken [vR 9 36, vI a, vI b, vI c, vI e] m (fun r m' => r = some (vI e) ∧ m' = mUp (mUp (mUp (mUp m 38 t a) 39 t b) 40 t c) 36 5 (nI (t + 1))) := by
  refine E_X8_addToken (ls := [vR 9 36, vI a, vI b, vI c, vI e]) rfl rfl ?_
  repeat refine AW.s rfl ?_
  try dsimp only [List.set_cons_zero, List.set_cons_succ, Option.toList_some, Option.toList_none, List.cons_append, List.nil_append]
  rw [ht]
  refine AW.b rfl (fun hc => ?_) (fun hc => ?_)
  · exact absurd ((nI_ltI (a := 160) (by decide) (by omega)).mp hc) (by omega)
  · repeat refine AW.s rfl ?_
    try dsimp only [List.set_cons_zero, List.set_cons_succ, Option.toList_some, Option.toList_none, List.cons_append, List.nil_append]
    rw [ht]
    refine AW.c rfl (⟨vp_in_nI (by omega) (by decide), fun z => absurd z (by decide)⟩) ?_
    try dsimp only [List.set_cons_zero, List.set_cons_succ, Option.toList_some, Option.toList_none, List.cons_append, List.nil_append]
    rw [nI_clamp (by omega)]
    repeat refine AW.s rfl ?_
    try dsimp only [List.set_cons_zero, List.set_cons_succ, Option.toList_some, Option.toList_none, List.cons_append, List.nil_append]
    rw [mUp_a (by decide), ht]
    refine AW.c rfl (⟨vp_in_nI (by omega) (by decide), fun z => absurd z (by decide)⟩) ?_
    try dsimp only [List.set_cons_zero, List.set_cons_succ, Option.toList_some, Option.toList_none, List.cons_append, List.nil_append]
    rw [nI_clamp (by omega)]
    repeat refine AW.s rfl ?_
    try dsimp only [List.set_cons_zero, List.set_cons_succ, Option.toList_some, Option.toList_none, List.cons_append, List.nil_append]
    rw [mUp_a (by decide), mUp_a (by decide), ht]
    refine AW.c rfl (⟨vp_in_nI (by omega) (by decide), fun z => absurd z (by decide)⟩) ?_
    try dsimp only [List.set_cons_zero, List.set_cons_succ, Option.toList_some, Option.toList_none, List.cons_append, List.nil_append]
    rw [nI_clamp (by omega)]
    repeat refine AW.s rfl ?_
    try dsimp only [List.set_cons_zero, List.set_cons_succ, Option.toList_some, Option.toList_none, List.cons_append, List.nil_append]
    rw [mUp_a (by decide), mUp_a (by decide), mUp_a (by decide), ht, nI_1]
    exact AW.ri rfl rfl rfl ⟨rfl, rfl⟩
/-- the first place from p on with no blank, f places left -/
def blF (g : Nat → Int32) (f p : Nat) : Nat := match f with
  | 0 => p
  | f + 1 => if g p = 32 ∨ g p = 10 then blF g f (p + 1) else p
theorem c_afterBlanks {l : Launch} {X : XT} {d : Nat} {s p : Nat} {m : Mem} (hs : m 36 1 = nI s) (hs1 : s ≤ 160) (hp : p ≤ s) : Meth l X d M_X8_afterBlanks [vR 9 36, vI (nI p)] m (fun r m' => r = some (vI (nI (blF (m 37) (s - p) p))) ∧ m' = m) := by
  refine E_X8_afterBlanks (ls := [vR 9 36, vI (nI p), vU]) rfl rfl ?_
  repeat refine AW.u 2 rfl rfl ?_
  try dsimp only [List.set_cons_zero, List.set_cons_succ, Option.toList_some, Option.toList_none, List.cons_append, List.nil_append]
  refine AW.loop (pc := 2) (σ := Unit) (s - p) (fun i _ => [vR 9 36, vI (nI p), vI (nI (p + i))]) (fun i _ m1 => m1 = m ∧ blF (m 37) (s - p) p = blF (m 37) (s - p - i) (p + i)) (fun i _ m1 hi hm1 ih => ?_) 0 () m (Nat.zero_le _) ⟨rfl, rfl⟩
  obtain ⟨rfl, hb⟩ := hm1
  repeat refine AW.s rfl ?_
  try dsimp only [List.set_cons_zero, List.set_cons_succ, Option.toList_some, Option.toList_none, List.cons_append, List.nil_append]
  rw [hs]
  refine AW.b rfl (fun hc => ?_) (fun hc => ?_)
  · have hlt : p + i < s := (nI_ltI (by omega) (by omega)).mp hc
    obtain ⟨f, hff⟩ : ∃ f, s - p - i = f + 1 := ⟨s - p - i - 1, by omega⟩
    rw [hff] at hb
    have hb : blF (m1 37) (s - p) p = if m1 37 (p + i) = 32 ∨ m1 37 (p + i) = 10 then blF (m1 37) f (p + i + 1) else p + i := hb
    have hgo : (m1 37 (p + i) = 32 ∨ m1 37 (p + i) = 10) → blF (m1 37) (s - p) p = blF (m1 37) (s - p - (i + 1)) (p + (i + 1)) := fun q => by
      rw [hb, if_pos q, show s - p - (i + 1) = f by omega]; rfl
    repeat refine AW.s rfl ?_
    try dsimp only [List.set_cons_zero, List.set_cons_succ, Option.toList_some, Option.toList_none, List.cons_append, List.nil_append]
    refine AW.c rfl (vp_in_nI (by omega) (by decide)) ?_
    try dsimp only [List.set_cons_zero, List.set_cons_succ, Option.toList_some, Option.toList_none, List.cons_append, List.nil_append]
    rw [nI_clamp (by omega)]
    repeat refine AW.s rfl ?_
    try dsimp only [List.set_cons_zero, List.set_cons_succ, Option.toList_some, Option.toList_none, List.cons_append, List.nil_append]
    refine AW.b rfl (fun hc => ?_) (fun hc => ?_)
    · have q := hc
      repeat refine AW.u 2 rfl rfl ?_
      try dsimp only [List.set_cons_zero, List.set_cons_succ, Option.toList_some, Option.toList_none, List.cons_append, List.nil_append]
      rw [nI_1]
      exact ih () _ (by omega) ⟨rfl, hgo (Or.inl q)⟩
    · have q1 := hc
      repeat refine AW.s rfl ?_
      try dsimp only [List.set_cons_zero, List.set_cons_succ, Option.toList_some, Option.toList_none, List.cons_append, List.nil_append]
      refine AW.c rfl (vp_in_nI (by omega) (by decide)) ?_
      try dsimp only [List.set_cons_zero, List.set_cons_succ, Option.toList_some, Option.toList_none, List.cons_append, List.nil_append]
      rw [nI_clamp (by omega)]
      repeat refine AW.s rfl ?_
      try dsimp only [List.set_cons_zero, List.set_cons_succ, Option.toList_some, Option.toList_none, List.cons_append, List.nil_append]
      refine AW.b rfl (fun hc => ?_) (fun hc => ?_)
      · have q := hc
        repeat refine AW.u 2 rfl rfl ?_
        try dsimp only [List.set_cons_zero, List.set_cons_succ, Option.toList_some, Option.toList_none, List.cons_append, List.nil_append]
        rw [nI_1]
        exact ih () _ (by omega) ⟨rfl, hgo (Or.inr q)⟩
      · have q2 := hc
        rw [if_neg (fun q => q.elim q1 q2)] at hb
        repeat refine AW.s rfl ?_
        try dsimp only [List.set_cons_zero, List.set_cons_succ, Option.toList_some, Option.toList_none, List.cons_append, List.nil_append]
        exact AW.ri rfl rfl rfl ⟨by rw [hb], rfl⟩
  · have hge : s = p + i := by
      have : ¬ p + i < s := fun q => hc (nI_lt q (by omega))
      omega
    rw [show s - p - i = 0 by omega] at hb
    repeat refine AW.s rfl ?_
    try dsimp only [List.set_cons_zero, List.set_cons_succ, Option.toList_some, Option.toList_none, List.cons_append, List.nil_append]
    exact AW.ri rfl rfl rfl ⟨by rw [hb]; rfl, rfl⟩
