/-- what the names of texts tell of a word as it is said -/
def fctV (σ : Sg) (rw : List Nat) (w : Nat) (xs : List Nat) (k : Nat) : Int32 := match k with
  | 0 => nI xs.length
  | 1 => nI (vcnt (σ 0 0) xs)
  | 2 => nI rw.length
  | 3 => match rw.getLast? with
    | none => 0
    | some r => nI (σ 5 r)
  | 4 => nI w
  | _ => nI (σ 2 w)
theorem last_mem {rw : List Nat} {r : Nat} (h : rw.getLast? = some r) : r ∈ rw := by
  rw [List.getLast?_eq_getElem?] at h
  exact List.mem_of_getElem? h
theorem k6 {k : Nat} (h : k < 6) : k = 0 ∨ k = 1 ∨ k = 2 ∨ k = 3 ∨ k = 4 ∨ k = 5 := by omega
theorem c_regard {l : Launch} {X : XT} {d : Nat} {J ρ h w : Nat} {m : Mem} {σ : Sg} {rw xs : List Nat} (hd : 1 ≤ d) (hs : RepS m 1 σ) (hσ : WF σ) (hrw : WFr σ rw) (hρ : RepR m ρ rw) (hw : w < σ 0 1) (hy : RY m h (some xs)) (ho : WFo (some xs)) (hJ : 18 ≤ J) (hJh : J + 1 < h ∨ h + 1 < J) (hJρ : J + 1 < ρ ∨ ρ + 1 < J) : Meth l X d M_X0_regard [vR 1 J, vR 8 1, vR 4 ρ, vI (nI w), vR 5 h] m (fun r1 m' => r1 = none ∧ (∀ k, k < 6 → m' (J + 1) k = fctV σ rw w xs k) ∧ ∀ a, a ≠ J + 1 → m' a = m a) := by
  obtain ⟨d, rfl⟩ : ∃ e, d = e + 1 := ⟨d - 1, by omega⟩
  obtain ⟨hg, h1l, h40⟩ := ho xs rfl
  have hV : m 1 0 = nI (σ 0 0) := hs.1
  have hwt : m 12 w = nI (σ 2 w) := (hs.2.2.2.2.1 w hw).2.1
  have hw8 : w < 8 := Nat.lt_of_lt_of_le hw hσ.2.1
  refine E_X0_regard (ls := [vR 1 J, vR 8 1, vR 4 ρ, vI (nI w), vR 5 h, vU]) rfl rfl ?_
  repeat refine AW.s rfl ?_
  try dsimp only [List.set_cons_zero, List.set_cons_succ, Option.toList_some, Option.toList_none, List.cons_append, List.nil_append]
  refine AW.V k_0_17 ((c_last hρ hrw.1)) rfl rfl rfl rfl rfl rfl (fun r1 m1 hq => ?_)
  obtain ⟨rfl, rfl⟩ := hq
  repeat refine AW.s rfl ?_
  try dsimp only [List.set_cons_zero, List.set_cons_succ, Option.toList_some, Option.toList_none, List.cons_append, List.nil_append]
  rw [hy.1]
  refine AW.c rfl (⟨vp_in_nI (n := 0) (by decide) (by decide), fun q => absurd q (by decide)⟩) ?_
  try dsimp only [List.set_cons_zero, List.set_cons_succ, Option.toList_some, Option.toList_none, List.cons_append, List.nil_append]
  rw [show (0 : Int32).toNatClampNeg = 0 from rfl]
  repeat refine AW.s rfl ?_
  try dsimp only [List.set_cons_zero, List.set_cons_succ, Option.toList_some, Option.toList_none, List.cons_append, List.nil_append]
  rw [mUp_a (show (1 : Nat) ≠ J + 1 by omega), hV]
  refine AW.V k_0_34 ((c_vowelCount (xs := xs) (V := σ 0 0) (hy.fr (mUp_a (by omega)) (mUp_a (by omega))) hg h40 hσ.1)) rfl rfl rfl rfl rfl rfl (fun r1 m1 hq => ?_)
  obtain ⟨rfl, rfl⟩ := hq
  try dsimp only [List.set_cons_zero, List.set_cons_succ, Option.toList_some, Option.toList_none, List.cons_append, List.nil_append]
  refine AW.c rfl (⟨vp_in_nI (n := 1) (by decide) (by decide), fun q => absurd q (by decide)⟩) ?_
  try dsimp only [List.set_cons_zero, List.set_cons_succ, Option.toList_some, Option.toList_none, List.cons_append, List.nil_append]
  rw [show (1 : Int32).toNatClampNeg = 1 from rfl]
  repeat refine AW.s rfl ?_
  try dsimp only [List.set_cons_zero, List.set_cons_succ, Option.toList_some, Option.toList_none, List.cons_append, List.nil_append]
  rw [mUp_a (show ρ ≠ J + 1 by omega), mUp_a (show ρ ≠ J + 1 by omega), hρ.1]
  refine AW.c rfl (⟨vp_in_nI (n := 2) (by decide) (by decide), fun q => absurd q (by decide)⟩) ?_
  try dsimp only [List.set_cons_zero, List.set_cons_succ, Option.toList_some, Option.toList_none, List.cons_append, List.nil_append]
  rw [show (2 : Int32).toNatClampNeg = 2 from rfl]
  repeat refine AW.s rfl ?_
  try dsimp only [List.set_cons_zero, List.set_cons_succ, Option.toList_some, Option.toList_none, List.cons_append, List.nil_append]
  have hfin : ∀ v : Int32, v = fctV σ rw w xs 3 → AW (GM l X (d + 1) M_X0_regard (fun r1 m' => r1 = none ∧ (∀ k, k < 6 → m' (J + 1) k = fctV σ rw w xs k) ∧ ∀ a, a ≠ J + 1 → m' a = m1 a)) 64 [vR 1 J, vR 8 1, vR 4 ρ, vI (nI w), vR 5 h, vI (lastI rw)] [vI v, vI 3, vR 1006 (J + 1)] (mUp (mUp (mUp m1 (J + 1) 0 (nI xs.length)) (J + 1) 1 (nI (vcnt (σ 0 0) xs))) (J + 1) 2 (nI rw.length)) := by
    intro v hv
    refine AW.c rfl (⟨vp_in_nI (n := 3) (by decide) (by decide), fun q => absurd q (by decide)⟩) ?_
    try dsimp only [List.set_cons_zero, List.set_cons_succ, Option.toList_some, Option.toList_none, List.cons_append, List.nil_append]
    rw [show (3 : Int32).toNatClampNeg = 3 from rfl]
    repeat refine AW.s rfl ?_
    try dsimp only [List.set_cons_zero, List.set_cons_succ, Option.toList_some, Option.toList_none, List.cons_append, List.nil_append]
    refine AW.c rfl (⟨vp_in_nI (n := 4) (by decide) (by decide), fun q => absurd q (by decide)⟩) ?_
    try dsimp only [List.set_cons_zero, List.set_cons_succ, Option.toList_some, Option.toList_none, List.cons_append, List.nil_append]
    rw [show (4 : Int32).toNatClampNeg = 4 from rfl]
    repeat refine AW.s rfl ?_
    try dsimp only [List.set_cons_zero, List.set_cons_succ, Option.toList_some, Option.toList_none, List.cons_append, List.nil_append]
    refine AW.c rfl (vp_in_nI (by omega) (by decide)) ?_
    try dsimp only [List.set_cons_zero, List.set_cons_succ, Option.toList_some, Option.toList_none, List.cons_append, List.nil_append]
    rw [nI_clamp (by omega)]
    refine AW.c rfl (⟨vp_in_nI (n := 5) (by decide) (by decide), fun q => absurd q (by decide)⟩) ?_
    try dsimp only [List.set_cons_zero, List.set_cons_succ, Option.toList_some, Option.toList_none, List.cons_append, List.nil_append]
    rw [show (5 : Int32).toNatClampNeg = 5 from rfl]
    refine AW.rv rfl rfl ⟨rfl, fun k hk => ?_, fun a ha => by rw [mUp_a ha, mUp_a ha, mUp_a ha, mUp_a ha, mUp_a ha, mUp_a ha]⟩
    rcases k6 hk with e | e | e | e | e | e <;> subst e
    · rw [mUp_n (Or.inr (by decide)), mUp_n (Or.inr (by decide)), mUp_n (Or.inr (by decide)), mUp_n (Or.inr (by decide)), mUp_n (Or.inr (by decide)), mUp_s]; rfl
    · rw [mUp_n (Or.inr (by decide)), mUp_n (Or.inr (by decide)), mUp_n (Or.inr (by decide)), mUp_n (Or.inr (by decide)), mUp_s]; rfl
    · rw [mUp_n (Or.inr (by decide)), mUp_n (Or.inr (by decide)), mUp_n (Or.inr (by decide)), mUp_s]; rfl
    · rw [mUp_n (Or.inr (by decide)), mUp_n (Or.inr (by decide)), mUp_s]; exact hv
    · rw [mUp_n (Or.inr (by decide)), mUp_s]; rfl
    · rw [mUp_s]
      have e12 : (12 : Nat) ≠ J + 1 := by omega
      show mUp (mUp (mUp (mUp (mUp m1 _ _ _) _ _ _) _ _ _) _ _ _) _ _ _ 12 w = nI (σ 2 w)
      rw [mUp_a e12, mUp_a e12, mUp_a e12, mUp_a e12, mUp_a e12]
      exact hwt
  have hf3 : fctV σ rw w xs 3 = (match rw.getLast? with | none => 0 | some r => nI (σ 5 r)) := rfl
  cases hgl : rw.getLast? with
  | none =>
    have hli : lastI rw = -1 := by unfold lastI; rw [hgl]
    rw [hgl] at hf3
    refine AW.b rfl (fun hc => ?_) (fun hc => ?_)
    · iterate 2 refine AW.s rfl ?_
      try dsimp only [List.set_cons_zero, List.set_cons_succ, Option.toList_some, Option.toList_none, List.cons_append, List.nil_append]
      exact hfin 0 hf3.symm
    · exact absurd hli hc
  | some r =>
    have hli : lastI rw = nI r := by unfold lastI; rw [hgl]
    rw [hgl] at hf3
    have hr : r < σ 0 2 := hrw.2 r (last_mem hgl)
    have hr6 : r < 6 := Nat.lt_of_lt_of_le hr hσ.2.2.1
    refine AW.b rfl (fun hc => ?_) (fun hc => ?_)
    · rw [hli] at hc; exact absurd hc (nI_m1 (by omega))
    · repeat refine AW.s rfl ?_
      try dsimp only [List.set_cons_zero, List.set_cons_succ, Option.toList_some, Option.toList_none, List.cons_append, List.nil_append]
      rw [hli]
      refine AW.c rfl (vp_in_nI (by omega) (by decide)) ?_
      try dsimp only [List.set_cons_zero, List.set_cons_succ, Option.toList_some, Option.toList_none, List.cons_append, List.nil_append]
      rw [nI_clamp (by omega), ← hli]
      refine hfin _ ?_
      have e15 : (15 : Nat) ≠ J + 1 := by omega
      show mUp (mUp (mUp m1 _ _ _) _ _ _) _ _ _ 15 r = _
      rw [mUp_a e15, mUp_a e15, mUp_a e15, hf3]
      exact (hs.2.2.2.2.2.1 r hr).2.2
def hardB (k : Nat) (n v : Int32) : Int32 := match k with
  | 1 => v + 1
  | 2 => v * 2
  | 3 => v + 1
  | 4 => v * 2 / 2
  | 5 => v + n
  | _ => v
theorem c_hardBy {l : Launch} {X : XT} {d : Nat} {k : Nat} {n v : Int32} {m : Mem} (hk : k < 6) : Meth l X d M_X0_hardBy [vI (nI k), vI n, vI v] m (fun r1 m' => r1 = some (vI (hardB k n v)) ∧ m' = m) := by
  refine E_X0_hardBy (ls := [vI (nI k), vI n, vI v]) rfl rfl ?_
  repeat refine AW.s rfl ?_
  try dsimp only [List.set_cons_zero, List.set_cons_succ, Option.toList_some, Option.toList_none, List.cons_append, List.nil_append]
  rcases k6 hk with e | e | e | e | e | e <;> subst e
  · refine AW.tout (tgt := 54) rfl (by decide) (by decide) ?_
    repeat refine AW.s rfl ?_
    try dsimp only [List.set_cons_zero, List.set_cons_succ, Option.toList_some, Option.toList_none, List.cons_append, List.nil_append]
    exact AW.ri rfl rfl rfl ⟨rfl, rfl⟩
  · refine AW.tin (tgt := 36) rfl (by decide) (by decide) rfl (by decide) ?_
    repeat refine AW.s rfl ?_
    try dsimp only [List.set_cons_zero, List.set_cons_succ, Option.toList_some, Option.toList_none, List.cons_append, List.nil_append]
    exact AW.ri rfl rfl rfl ⟨rfl, rfl⟩
  · refine AW.tin (tgt := 40) rfl (by decide) (by decide) rfl (by decide) ?_
    repeat refine AW.s rfl ?_
    try dsimp only [List.set_cons_zero, List.set_cons_succ, Option.toList_some, Option.toList_none, List.cons_append, List.nil_append]
    exact AW.ri rfl rfl rfl ⟨rfl, rfl⟩
  · refine AW.tin (tgt := 36) rfl (by decide) (by decide) rfl (by decide) ?_
    repeat refine AW.s rfl ?_
    try dsimp only [List.set_cons_zero, List.set_cons_succ, Option.toList_some, Option.toList_none, List.cons_append, List.nil_append]
    exact AW.ri rfl rfl rfl ⟨rfl, rfl⟩
  · refine AW.tin (tgt := 44) rfl (by decide) (by decide) rfl (by decide) ?_
    repeat refine AW.s rfl ?_
    try dsimp only [List.set_cons_zero, List.set_cons_succ, Option.toList_some, Option.toList_none, List.cons_append, List.nil_append]
    refine AW.c rfl (by decide) ?_
    try dsimp only [List.set_cons_zero, List.set_cons_succ, Option.toList_some, Option.toList_none, List.cons_append, List.nil_append]
    exact AW.ri rfl rfl rfl ⟨rfl, rfl⟩
  · refine AW.tin (tgt := 50) rfl (by decide) (by decide) rfl (by decide) ?_
    repeat refine AW.s rfl ?_
    try dsimp only [List.set_cons_zero, List.set_cons_succ, Option.toList_some, Option.toList_none, List.cons_append, List.nil_append]
    exact AW.ri rfl rfl rfl ⟨rfl, rfl⟩
def hardV (σ : Sg) (rw : List Nat) (v : Int32) : Int32 := match rw.getLast? with
  | none => v
  | some r => if 0 < hardB (σ 3 r) (nI (σ 5 r)) v then hardB (σ 3 r) (nI (σ 5 r)) v else 0
theorem c_hard {l : Launch} {X : XT} {d : Nat} {J ρ T : Nat} {en : Nat → Nat} {m : Mem} {σ : Sg} {rw : List Nat} (hd : 2 ≤ d) (hs : RepS m 1 σ) (hσ : WF σ) (hrw : WFr σ rw) (hρ : RepR m ρ rw) (ht : TOK m T en) (hT : 18 ≤ T) (hJT : J + 1 < T) (hρT : ρ + 1 < T) : Meth l X d M_X0_hard [vR 1 J, vR 8 1, vR 4 ρ, vR 10 T] m (fun r1 m' => r1 = some (vI (hardV σ rw (clI (tval m T en 0 (m (J + 1)))))) ∧ ∀ a, a ≠ T + 4 → m' a = m a) := by
  obtain ⟨d, rfl⟩ : ∃ e, d = e + 1 := ⟨d - 1, by omega⟩
  refine E_X0_hard (ls := [vR 1 J, vR 8 1, vR 4 ρ, vR 10 T, vU, vU]) rfl rfl ?_
  repeat refine AW.s rfl ?_
  try dsimp only [List.set_cons_zero, List.set_cons_succ, Option.toList_some, Option.toList_none, List.cons_append, List.nil_append]
  refine AW.V k_0_47 ((c_tells (p := 0) (by omega) ht (by decide) (by omega))) rfl rfl rfl rfl rfl rfl (fun r1 m1 hq => ?_)
  obtain ⟨rfl, hf⟩ := hq
  repeat refine AW.s rfl ?_
  try dsimp only [List.set_cons_zero, List.set_cons_succ, Option.toList_some, Option.toList_none, List.cons_append, List.nil_append]
  refine AW.V k_0_17 ((c_last (hρ.fr (hf ρ (by omega)) (hf (ρ + 1) (by omega))) hrw.1)) rfl rfl rfl rfl rfl rfl (fun r1 m1 hq => ?_)
  obtain ⟨rfl, rfl⟩ := hq
  repeat refine AW.s rfl ?_
  try dsimp only [List.set_cons_zero, List.set_cons_succ, Option.toList_some, Option.toList_none, List.cons_append, List.nil_append]
  generalize clI (tval m T en 0 (m (J + 1))) = v
  have hh : hardV σ rw v = (match rw.getLast? with | none => v | some r => if 0 < hardB (σ 3 r) (nI (σ 5 r)) v then hardB (σ 3 r) (nI (σ 5 r)) v else 0) := rfl
  cases hgl : rw.getLast? with
  | none =>
    have hli : lastI rw = -1 := by unfold lastI; rw [hgl]
    rw [hgl] at hh
    refine AW.b rfl (fun hc => ?_) (fun hc => ?_)
    · repeat refine AW.s rfl ?_
      try dsimp only [List.set_cons_zero, List.set_cons_succ, Option.toList_some, Option.toList_none, List.cons_append, List.nil_append]
      exact AW.ri rfl rfl rfl ⟨by rw [hh], hf⟩
    · exact absurd hli hc
  | some r =>
    have hli : lastI rw = nI r := by unfold lastI; rw [hgl]
    rw [hgl] at hh
    have hr : r < σ 0 2 := hrw.2 r (last_mem hgl)
    have hr6 : r < 6 := Nat.lt_of_lt_of_le hr hσ.2.2.1
    have hs6 := hs.2.2.2.2.2.1 r hr
    refine AW.b rfl (fun hc => ?_) (fun hc => ?_)
    · rw [hli] at hc; exact absurd hc (nI_m1 (by omega))
    · repeat refine AW.s rfl ?_
      try dsimp only [List.set_cons_zero, List.set_cons_succ, Option.toList_some, Option.toList_none, List.cons_append, List.nil_append]
      rw [hli]
      refine AW.c rfl (vp_in_nI (by omega) (by decide)) ?_
      try dsimp only [List.set_cons_zero, List.set_cons_succ, Option.toList_some, Option.toList_none, List.cons_append, List.nil_append]
      rw [nI_clamp (by omega)]
      repeat refine AW.s rfl ?_
      try dsimp only [List.set_cons_zero, List.set_cons_succ, Option.toList_some, Option.toList_none, List.cons_append, List.nil_append]
      refine AW.c rfl (vp_in_nI (by omega) (by decide)) ?_
      try dsimp only [List.set_cons_zero, List.set_cons_succ, Option.toList_some, Option.toList_none, List.cons_append, List.nil_append]
      rw [nI_clamp (by omega)]
      have q1 : m1 13 r = nI (σ 3 r) := by rw [hf 13 (by omega)]; exact hs6.1
      have q2 : m1 15 r = nI (σ 5 r) := by rw [hf 15 (by omega)]; exact hs6.2.2
      repeat refine AW.s rfl ?_
      try dsimp only [List.set_cons_zero, List.set_cons_succ, Option.toList_some, Option.toList_none, List.cons_append, List.nil_append]
      rw [show m1 (1 + 12) r = nI (σ 3 r) from q1, show m1 (1 + 14) r = nI (σ 5 r) from q2]
      refine AW.S k_0_54 ((c_hardBy (hσ.2.2.2.2.2.2.1 r hr).1)) rfl rfl rfl rfl (fun r1 m1 hq => ?_)
      obtain ⟨rfl, rfl⟩ := hq
      try dsimp only [List.set_cons_zero, List.set_cons_succ, Option.toList_some, Option.toList_none, List.cons_append, List.nil_append]
      refine AW.mmax (G := GM l X (d + 1) M_X0_hard _) rfl k_0_58 rR1 (by decide) ?_
      try dsimp only [List.set_cons_zero, List.set_cons_succ, Option.toList_some, Option.toList_none, List.cons_append, List.nil_append]
      exact AW.ri rfl rfl rfl ⟨by rw [hh], hf⟩
