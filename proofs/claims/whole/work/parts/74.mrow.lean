theorem c_Mswap {l : Launch} {X : XT} {d : Nat} {a b : Nat} {m : Mem} (ha : a < 8) (hb : b < 8) : Meth l X d M_X11_swap [vR 12 243, vI (nI a), vI (nI b)] m (fun r m' => r = none ∧ m' = mUp (mUp m 250 a (m 250 b)) 250 b (m 250 a)) := by
  refine E_X11_swap (ls := [vR 12 243, vI (nI a), vI (nI b), vU]) rfl rfl ?_
  repeat refine AW.s rfl ?_
  try dsimp only [List.set_cons_zero, List.set_cons_succ, Option.toList_some, Option.toList_none, List.cons_append, List.nil_append]
  refine AW.c rfl (vp_in_nI (by omega) (by decide)) ?_
  try dsimp only [List.set_cons_zero, List.set_cons_succ, Option.toList_some, Option.toList_none, List.cons_append, List.nil_append]
  rw [nI_clamp (by omega)]
  repeat refine AW.s rfl ?_
  try dsimp only [List.set_cons_zero, List.set_cons_succ, Option.toList_some, Option.toList_none, List.cons_append, List.nil_append]
  refine AW.c rfl (vp_in_nI (by omega) (by decide)) ?_
  try dsimp only [List.set_cons_zero, List.set_cons_succ, Option.toList_some, Option.toList_none, List.cons_append, List.nil_append]
  rw [nI_clamp (by omega)]
  refine AW.c rfl (⟨vp_in_nI (by omega) (by decide), fun z => absurd z (by decide)⟩) ?_
  try dsimp only [List.set_cons_zero, List.set_cons_succ, Option.toList_some, Option.toList_none, List.cons_append, List.nil_append]
  rw [nI_clamp (by omega)]
  repeat refine AW.s rfl ?_
  try dsimp only [List.set_cons_zero, List.set_cons_succ, Option.toList_some, Option.toList_none, List.cons_append, List.nil_append]
  refine AW.c rfl (⟨vp_in_nI (by omega) (by decide), fun z => absurd z (by decide)⟩) ?_
  try dsimp only [List.set_cons_zero, List.set_cons_succ, Option.toList_some, Option.toList_none, List.cons_append, List.nil_append]
  rw [nI_clamp (by omega)]
  repeat refine AW.s rfl ?_
  try dsimp only [List.set_cons_zero, List.set_cons_succ, Option.toList_some, Option.toList_none, List.cons_append, List.nil_append]
  exact AW.rv rfl rfl ⟨rfl, rfl⟩
theorem c_MlayBy {l : Launch} {X : XT} {d : Nat} {m : Mem} : Meth l X d M_X11_layBy [vR 12 243] m (fun r m' => r = none ∧ m' 243 38 = m 243 9 ∧ (∀ k, k < 8 → m' 264 k = m 250 k) ∧ (∀ k, k ≠ 38 → m' 243 k = m 243 k) ∧ ∀ a, a ≠ 243 → a ≠ 264 → m' a = m a) := by
  refine E_X11_layBy (ls := [vR 12 243, vU]) rfl rfl ?_
  repeat refine AW.u 10 rfl rfl ?_
  try dsimp only [List.set_cons_zero, List.set_cons_succ, Option.toList_some, Option.toList_none, List.cons_append, List.nil_append]
  refine AW.loop (pc := 10) (σ := Unit) 8 (fun i _ => [vR 12 243, vI (nI i)]) (fun i _ m1 => m1 243 = mUp m 243 38 (m 243 9) 243 ∧ (∀ k, k < i → m1 264 k = m 250 k) ∧ ∀ a, a ≠ 243 → a ≠ 264 → m1 a = m a) (fun i _ m1 hi hm1 ih => ?_) 0 () _ (Nat.zero_le _) ⟨rfl, fun k hk => absurd hk (by omega), fun a e _ => mUp_a e⟩
  obtain ⟨h0, hk, hf⟩ := hm1
  repeat refine AW.s rfl ?_
  try dsimp only [List.set_cons_zero, List.set_cons_succ, Option.toList_some, Option.toList_none, List.cons_append, List.nil_append]
  refine AW.b rfl (fun hc => ?_) (fun hc => ?_)
  · have hlt : i < 8 := (nI_ltI (b := 8) (by omega) (by decide)).mp hc
    repeat refine AW.s rfl ?_
    try dsimp only [List.set_cons_zero, List.set_cons_succ, Option.toList_some, Option.toList_none, List.cons_append, List.nil_append]
    refine AW.c rfl (vp_in_nI (by omega) (by decide)) ?_
    try dsimp only [List.set_cons_zero, List.set_cons_succ, Option.toList_some, Option.toList_none, List.cons_append, List.nil_append]
    rw [nI_clamp (by omega)]
    refine AW.c rfl (⟨vp_in_nI (by omega) (by decide), fun z => absurd z (by decide)⟩) ?_
    try dsimp only [List.set_cons_zero, List.set_cons_succ, Option.toList_some, Option.toList_none, List.cons_append, List.nil_append]
    rw [nI_clamp (by omega)]
    repeat refine AW.u 10 rfl rfl ?_
    try dsimp only [List.set_cons_zero, List.set_cons_succ, Option.toList_some, Option.toList_none, List.cons_append, List.nil_append]
    rw [nI_1]
    refine ih () _ hlt ⟨by rw [mUp_a (by decide)]; exact h0, fun k hk1 => ?_, fun a e1 e2 => by rw [mUp_a e2]; exact hf a e1 e2⟩
    by_cases e : k = i
    · subst e
      exact (mUp_s _ _ _ _).trans (congrFun (hf 250 (by decide) (by decide)) k)
    · exact (mUp_n (Or.inr e)).trans (hk k (by omega))
  · have : i = 8 := by
      have : ¬ i < 8 := fun q => hc (nI_lt (b := 8) q (by decide))
      omega
    subst this
    repeat refine AW.s rfl ?_
    try dsimp only [List.set_cons_zero, List.set_cons_succ, Option.toList_some, Option.toList_none, List.cons_append, List.nil_append]
    exact AW.rv rfl rfl ⟨rfl, by rw [h0]; exact mUp_s _ _ _ _, hk, fun k e => by rw [h0]; exact mUp_n (Or.inr e), hf⟩
theorem c_MlayBack {l : Launch} {X : XT} {d : Nat} {m : Mem} : Meth l X d M_X11_layBack [vR 12 243] m (fun r m' => r = none ∧ m' 243 9 = m 243 38 ∧ (∀ k, k < 8 → m' 250 k = m 264 k) ∧ (∀ k, k ≠ 9 → m' 243 k = m 243 k) ∧ ∀ a, a ≠ 243 → a ≠ 250 → m' a = m a) := by
  refine E_X11_layBack (ls := [vR 12 243, vU]) rfl rfl ?_
  repeat refine AW.u 10 rfl rfl ?_
  try dsimp only [List.set_cons_zero, List.set_cons_succ, Option.toList_some, Option.toList_none, List.cons_append, List.nil_append]
  refine AW.loop (pc := 10) (σ := Unit) 8 (fun i _ => [vR 12 243, vI (nI i)]) (fun i _ m1 => m1 243 = mUp m 243 9 (m 243 38) 243 ∧ (∀ k, k < i → m1 250 k = m 264 k) ∧ ∀ a, a ≠ 243 → a ≠ 250 → m1 a = m a) (fun i _ m1 hi hm1 ih => ?_) 0 () _ (Nat.zero_le _) ⟨rfl, fun k hk => absurd hk (by omega), fun a e _ => mUp_a e⟩
  obtain ⟨h0, hk, hf⟩ := hm1
  repeat refine AW.s rfl ?_
  try dsimp only [List.set_cons_zero, List.set_cons_succ, Option.toList_some, Option.toList_none, List.cons_append, List.nil_append]
  refine AW.b rfl (fun hc => ?_) (fun hc => ?_)
  · have hlt : i < 8 := (nI_ltI (b := 8) (by omega) (by decide)).mp hc
    repeat refine AW.s rfl ?_
    try dsimp only [List.set_cons_zero, List.set_cons_succ, Option.toList_some, Option.toList_none, List.cons_append, List.nil_append]
    refine AW.c rfl (vp_in_nI (by omega) (by decide)) ?_
    try dsimp only [List.set_cons_zero, List.set_cons_succ, Option.toList_some, Option.toList_none, List.cons_append, List.nil_append]
    rw [nI_clamp (by omega)]
    refine AW.c rfl (⟨vp_in_nI (by omega) (by decide), fun z => absurd z (by decide)⟩) ?_
    try dsimp only [List.set_cons_zero, List.set_cons_succ, Option.toList_some, Option.toList_none, List.cons_append, List.nil_append]
    rw [nI_clamp (by omega)]
    repeat refine AW.u 10 rfl rfl ?_
    try dsimp only [List.set_cons_zero, List.set_cons_succ, Option.toList_some, Option.toList_none, List.cons_append, List.nil_append]
    rw [nI_1]
    refine ih () _ hlt ⟨by rw [mUp_a (by decide)]; exact h0, fun k hk1 => ?_, fun a e1 e2 => by rw [mUp_a e2]; exact hf a e1 e2⟩
    by_cases e : k = i
    · subst e
      exact (mUp_s _ _ _ _).trans (congrFun (hf 264 (by decide) (by decide)) k)
    · exact (mUp_n (Or.inr e)).trans (hk k (by omega))
  · have : i = 8 := by
      have : ¬ i < 8 := fun q => hc (nI_lt (b := 8) q (by decide))
      omega
    subst this
    repeat refine AW.s rfl ?_
    try dsimp only [List.set_cons_zero, List.set_cons_succ, Option.toList_some, Option.toList_none, List.cons_append, List.nil_append]
    exact AW.rv rfl rfl ⟨rfl, by rw [h0]; exact mUp_s _ _ _ _, hk, fun k e => by rw [h0]; exact mUp_n (Or.inr e), hf⟩
