-- ===== the model: move, image, back =====
def MVd (m m' : Mem) (a i b j n : Nat) : Prop := (∀ q, q ≠ b → m' q = m q) ∧ (∀ k, k < n → m' b (j + k) = m a (i + k)) ∧ ∀ q, (q < j ∨ j + n ≤ q) → m' b q = m b q
section
variable {l : Launch} {X : XT} {d : Nat} {m : Mem} {Ω : OM}
theorem c_mv_80_144 {a i b j n : Nat} (hab : a ≠ b) (hi : i + n ≤ 80) (hj : j + n ≤ 144) : Meth l X d M_X11_move [vR 1080 a, vI (nI i), vR 1144 b, vI (nI j), vI (nI n)] m (fun r m' => r = none ∧ MVd m m' a i b j n) := by
  refine E_X11_move (ls := [vR 1080 a, vI (nI i), vR 1144 b, vI (nI j), vI (nI n), vU]) rfl rfl ?_
  repeat refine AW.u 3 rfl rfl ?_
  try dsimp only [List.set_cons_zero, List.set_cons_succ, Option.toList_some, Option.toList_none, List.cons_append, List.nil_append]
  refine AW.loop (pc := 3) (σ := Unit) n (fun k _ => [vR 1080 a, vI (nI i), vR 1144 b, vI (nI j), vI (nI n), vI (nI k)]) (fun k _ m1 => MVd m m1 a i b j k) (fun k _ m1 hk hm1 ih => ?_) 0 () m (Nat.zero_le _) ⟨fun _ _ => rfl, fun k hk => absurd hk (by omega), fun _ _ => rfl⟩
  obtain ⟨g1, g2, g3⟩ := hm1
  repeat refine AW.s rfl ?_
  try dsimp only [List.set_cons_zero, List.set_cons_succ, Option.toList_some, Option.toList_none, List.cons_append, List.nil_append]
  refine AW.b rfl (fun hc => ?_) (fun hc => ?_)
  · have hlt : k < n := (nI_ltI (by omega) (by omega)).mp hc
    repeat refine AW.s rfl ?_
    try dsimp only [List.set_cons_zero, List.set_cons_succ, Option.toList_some, Option.toList_none, List.cons_append, List.nil_append]
    rw [nI_add, nI_add]
    refine AW.c rfl (vp_in_nI (by omega) (by decide)) ?_
    try dsimp only [List.set_cons_zero, List.set_cons_succ, Option.toList_some, Option.toList_none, List.cons_append, List.nil_append]
    rw [nI_clamp (by omega)]
    refine AW.c rfl (⟨vp_in_nI (by omega) (by decide), fun z => absurd z (by decide)⟩) ?_
    try dsimp only [List.set_cons_zero, List.set_cons_succ, Option.toList_some, Option.toList_none, List.cons_append, List.nil_append]
    rw [nI_clamp (by omega)]
    repeat refine AW.u 3 rfl rfl ?_
    try dsimp only [List.set_cons_zero, List.set_cons_succ, Option.toList_some, Option.toList_none, List.cons_append, List.nil_append]
    rw [nI_1]
    refine ih () _ hlt ⟨fun q hq => by rw [mUp_a hq]; exact g1 q hq, fun q hq => ?_, fun q hq => by rw [mUp_n (Or.inr (by omega))]; exact g3 q (by omega)⟩
    by_cases e : q = k
    · subst e; rw [mUp_s, g1 a hab]
    · rw [mUp_n (Or.inr (by omega))]; exact g2 q (by omega)
  · have : k = n := by
      have : ¬ k < n := fun q => hc ((nI_ltI (by omega) (by omega)).mpr q)
      omega
    subst this
    repeat refine AW.s rfl ?_
    try dsimp only [List.set_cons_zero, List.set_cons_succ, Option.toList_some, Option.toList_none, List.cons_append, List.nil_append]
    exact AW.rv rfl rfl ⟨rfl, g1, g2, g3⟩
theorem c_mv_8_144 {a i b j n : Nat} (hab : a ≠ b) (hi : i + n ≤ 8) (hj : j + n ≤ 144) : Meth l X d M_X11_move [vR 1008 a, vI (nI i), vR 1144 b, vI (nI j), vI (nI n)] m (fun r m' => r = none ∧ MVd m m' a i b j n) := by
  refine E_X11_move (ls := [vR 1008 a, vI (nI i), vR 1144 b, vI (nI j), vI (nI n), vU]) rfl rfl ?_
  repeat refine AW.u 3 rfl rfl ?_
  try dsimp only [List.set_cons_zero, List.set_cons_succ, Option.toList_some, Option.toList_none, List.cons_append, List.nil_append]
  refine AW.loop (pc := 3) (σ := Unit) n (fun k _ => [vR 1008 a, vI (nI i), vR 1144 b, vI (nI j), vI (nI n), vI (nI k)]) (fun k _ m1 => MVd m m1 a i b j k) (fun k _ m1 hk hm1 ih => ?_) 0 () m (Nat.zero_le _) ⟨fun _ _ => rfl, fun k hk => absurd hk (by omega), fun _ _ => rfl⟩
  obtain ⟨g1, g2, g3⟩ := hm1
  repeat refine AW.s rfl ?_
  try dsimp only [List.set_cons_zero, List.set_cons_succ, Option.toList_some, Option.toList_none, List.cons_append, List.nil_append]
  refine AW.b rfl (fun hc => ?_) (fun hc => ?_)
  · have hlt : k < n := (nI_ltI (by omega) (by omega)).mp hc
    repeat refine AW.s rfl ?_
    try dsimp only [List.set_cons_zero, List.set_cons_succ, Option.toList_some, Option.toList_none, List.cons_append, List.nil_append]
    rw [nI_add, nI_add]
    refine AW.c rfl (vp_in_nI (by omega) (by decide)) ?_
    try dsimp only [List.set_cons_zero, List.set_cons_succ, Option.toList_some, Option.toList_none, List.cons_append, List.nil_append]
    rw [nI_clamp (by omega)]
    refine AW.c rfl (⟨vp_in_nI (by omega) (by decide), fun z => absurd z (by decide)⟩) ?_
    try dsimp only [List.set_cons_zero, List.set_cons_succ, Option.toList_some, Option.toList_none, List.cons_append, List.nil_append]
    rw [nI_clamp (by omega)]
    repeat refine AW.u 3 rfl rfl ?_
    try dsimp only [List.set_cons_zero, List.set_cons_succ, Option.toList_some, Option.toList_none, List.cons_append, List.nil_append]
    rw [nI_1]
    refine ih () _ hlt ⟨fun q hq => by rw [mUp_a hq]; exact g1 q hq, fun q hq => ?_, fun q hq => by rw [mUp_n (Or.inr (by omega))]; exact g3 q (by omega)⟩
    by_cases e : q = k
    · subst e; rw [mUp_s, g1 a hab]
    · rw [mUp_n (Or.inr (by omega))]; exact g2 q (by omega)
  · have : k = n := by
      have : ¬ k < n := fun q => hc ((nI_ltI (by omega) (by omega)).mpr q)
      omega
    subst this
    repeat refine AW.s rfl ?_
    try dsimp only [List.set_cons_zero, List.set_cons_succ, Option.toList_some, Option.toList_none, List.cons_append, List.nil_append]
    exact AW.rv rfl rfl ⟨rfl, g1, g2, g3⟩
theorem c_mv_6_144 {a i b j n : Nat} (hab : a ≠ b) (hi : i + n ≤ 6) (hj : j + n ≤ 144) : Meth l X d M_X11_move [vR 1006 a, vI (nI i), vR 1144 b, vI (nI j), vI (nI n)] m (fun r m' => r = none ∧ MVd m m' a i b j n) := by
  refine E_X11_move (ls := [vR 1006 a, vI (nI i), vR 1144 b, vI (nI j), vI (nI n), vU]) rfl rfl ?_
  repeat refine AW.u 3 rfl rfl ?_
  try dsimp only [List.set_cons_zero, List.set_cons_succ, Option.toList_some, Option.toList_none, List.cons_append, List.nil_append]
  refine AW.loop (pc := 3) (σ := Unit) n (fun k _ => [vR 1006 a, vI (nI i), vR 1144 b, vI (nI j), vI (nI n), vI (nI k)]) (fun k _ m1 => MVd m m1 a i b j k) (fun k _ m1 hk hm1 ih => ?_) 0 () m (Nat.zero_le _) ⟨fun _ _ => rfl, fun k hk => absurd hk (by omega), fun _ _ => rfl⟩
  obtain ⟨g1, g2, g3⟩ := hm1
  repeat refine AW.s rfl ?_
  try dsimp only [List.set_cons_zero, List.set_cons_succ, Option.toList_some, Option.toList_none, List.cons_append, List.nil_append]
  refine AW.b rfl (fun hc => ?_) (fun hc => ?_)
  · have hlt : k < n := (nI_ltI (by omega) (by omega)).mp hc
    repeat refine AW.s rfl ?_
    try dsimp only [List.set_cons_zero, List.set_cons_succ, Option.toList_some, Option.toList_none, List.cons_append, List.nil_append]
    rw [nI_add, nI_add]
    refine AW.c rfl (vp_in_nI (by omega) (by decide)) ?_
    try dsimp only [List.set_cons_zero, List.set_cons_succ, Option.toList_some, Option.toList_none, List.cons_append, List.nil_append]
    rw [nI_clamp (by omega)]
    refine AW.c rfl (⟨vp_in_nI (by omega) (by decide), fun z => absurd z (by decide)⟩) ?_
    try dsimp only [List.set_cons_zero, List.set_cons_succ, Option.toList_some, Option.toList_none, List.cons_append, List.nil_append]
    rw [nI_clamp (by omega)]
    repeat refine AW.u 3 rfl rfl ?_
    try dsimp only [List.set_cons_zero, List.set_cons_succ, Option.toList_some, Option.toList_none, List.cons_append, List.nil_append]
    rw [nI_1]
    refine ih () _ hlt ⟨fun q hq => by rw [mUp_a hq]; exact g1 q hq, fun q hq => ?_, fun q hq => by rw [mUp_n (Or.inr (by omega))]; exact g3 q (by omega)⟩
    by_cases e : q = k
    · subst e; rw [mUp_s, g1 a hab]
    · rw [mUp_n (Or.inr (by omega))]; exact g2 q (by omega)
  · have : k = n := by
      have : ¬ k < n := fun q => hc ((nI_ltI (by omega) (by omega)).mpr q)
      omega
    subst this
    repeat refine AW.s rfl ?_
    try dsimp only [List.set_cons_zero, List.set_cons_succ, Option.toList_some, Option.toList_none, List.cons_append, List.nil_append]
    exact AW.rv rfl rfl ⟨rfl, g1, g2, g3⟩
theorem c_mv_144_80 {a i b j n : Nat} (hab : a ≠ b) (hi : i + n ≤ 144) (hj : j + n ≤ 80) : Meth l X d M_X11_move [vR 1144 a, vI (nI i), vR 1080 b, vI (nI j), vI (nI n)] m (fun r m' => r = none ∧ MVd m m' a i b j n) := by
  refine E_X11_move (ls := [vR 1144 a, vI (nI i), vR 1080 b, vI (nI j), vI (nI n), vU]) rfl rfl ?_
  repeat refine AW.u 3 rfl rfl ?_
  try dsimp only [List.set_cons_zero, List.set_cons_succ, Option.toList_some, Option.toList_none, List.cons_append, List.nil_append]
  refine AW.loop (pc := 3) (σ := Unit) n (fun k _ => [vR 1144 a, vI (nI i), vR 1080 b, vI (nI j), vI (nI n), vI (nI k)]) (fun k _ m1 => MVd m m1 a i b j k) (fun k _ m1 hk hm1 ih => ?_) 0 () m (Nat.zero_le _) ⟨fun _ _ => rfl, fun k hk => absurd hk (by omega), fun _ _ => rfl⟩
  obtain ⟨g1, g2, g3⟩ := hm1
  repeat refine AW.s rfl ?_
  try dsimp only [List.set_cons_zero, List.set_cons_succ, Option.toList_some, Option.toList_none, List.cons_append, List.nil_append]
  refine AW.b rfl (fun hc => ?_) (fun hc => ?_)
  · have hlt : k < n := (nI_ltI (by omega) (by omega)).mp hc
    repeat refine AW.s rfl ?_
    try dsimp only [List.set_cons_zero, List.set_cons_succ, Option.toList_some, Option.toList_none, List.cons_append, List.nil_append]
    rw [nI_add, nI_add]
    refine AW.c rfl (vp_in_nI (by omega) (by decide)) ?_
    try dsimp only [List.set_cons_zero, List.set_cons_succ, Option.toList_some, Option.toList_none, List.cons_append, List.nil_append]
    rw [nI_clamp (by omega)]
    refine AW.c rfl (⟨vp_in_nI (by omega) (by decide), fun z => absurd z (by decide)⟩) ?_
    try dsimp only [List.set_cons_zero, List.set_cons_succ, Option.toList_some, Option.toList_none, List.cons_append, List.nil_append]
    rw [nI_clamp (by omega)]
    repeat refine AW.u 3 rfl rfl ?_
    try dsimp only [List.set_cons_zero, List.set_cons_succ, Option.toList_some, Option.toList_none, List.cons_append, List.nil_append]
    rw [nI_1]
    refine ih () _ hlt ⟨fun q hq => by rw [mUp_a hq]; exact g1 q hq, fun q hq => ?_, fun q hq => by rw [mUp_n (Or.inr (by omega))]; exact g3 q (by omega)⟩
    by_cases e : q = k
    · subst e; rw [mUp_s, g1 a hab]
    · rw [mUp_n (Or.inr (by omega))]; exact g2 q (by omega)
  · have : k = n := by
      have : ¬ k < n := fun q => hc ((nI_ltI (by omega) (by omega)).mpr q)
      omega
    subst this
    repeat refine AW.s rfl ?_
    try dsimp only [List.set_cons_zero, List.set_cons_succ, Option.toList_some, Option.toList_none, List.cons_append, List.nil_append]
    exact AW.rv rfl rfl ⟨rfl, g1, g2, g3⟩
theorem c_mv_144_8 {a i b j n : Nat} (hab : a ≠ b) (hi : i + n ≤ 144) (hj : j + n ≤ 8) : Meth l X d M_X11_move [vR 1144 a, vI (nI i), vR 1008 b, vI (nI j), vI (nI n)] m (fun r m' => r = none ∧ MVd m m' a i b j n) := by
  refine E_X11_move (ls := [vR 1144 a, vI (nI i), vR 1008 b, vI (nI j), vI (nI n), vU]) rfl rfl ?_
  repeat refine AW.u 3 rfl rfl ?_
  try dsimp only [List.set_cons_zero, List.set_cons_succ, Option.toList_some, Option.toList_none, List.cons_append, List.nil_append]
  refine AW.loop (pc := 3) (σ := Unit) n (fun k _ => [vR 1144 a, vI (nI i), vR 1008 b, vI (nI j), vI (nI n), vI (nI k)]) (fun k _ m1 => MVd m m1 a i b j k) (fun k _ m1 hk hm1 ih => ?_) 0 () m (Nat.zero_le _) ⟨fun _ _ => rfl, fun k hk => absurd hk (by omega), fun _ _ => rfl⟩
  obtain ⟨g1, g2, g3⟩ := hm1
  repeat refine AW.s rfl ?_
  try dsimp only [List.set_cons_zero, List.set_cons_succ, Option.toList_some, Option.toList_none, List.cons_append, List.nil_append]
  refine AW.b rfl (fun hc => ?_) (fun hc => ?_)
  · have hlt : k < n := (nI_ltI (by omega) (by omega)).mp hc
    repeat refine AW.s rfl ?_
    try dsimp only [List.set_cons_zero, List.set_cons_succ, Option.toList_some, Option.toList_none, List.cons_append, List.nil_append]
    rw [nI_add, nI_add]
    refine AW.c rfl (vp_in_nI (by omega) (by decide)) ?_
    try dsimp only [List.set_cons_zero, List.set_cons_succ, Option.toList_some, Option.toList_none, List.cons_append, List.nil_append]
    rw [nI_clamp (by omega)]
    refine AW.c rfl (⟨vp_in_nI (by omega) (by decide), fun z => absurd z (by decide)⟩) ?_
    try dsimp only [List.set_cons_zero, List.set_cons_succ, Option.toList_some, Option.toList_none, List.cons_append, List.nil_append]
    rw [nI_clamp (by omega)]
    repeat refine AW.u 3 rfl rfl ?_
    try dsimp only [List.set_cons_zero, List.set_cons_succ, Option.toList_some, Option.toList_none, List.cons_append, List.nil_append]
    rw [nI_1]
    refine ih () _ hlt ⟨fun q hq => by rw [mUp_a hq]; exact g1 q hq, fun q hq => ?_, fun q hq => by rw [mUp_n (Or.inr (by omega))]; exact g3 q (by omega)⟩
    by_cases e : q = k
    · subst e; rw [mUp_s, g1 a hab]
    · rw [mUp_n (Or.inr (by omega))]; exact g2 q (by omega)
  · have : k = n := by
      have : ¬ k < n := fun q => hc ((nI_ltI (by omega) (by omega)).mpr q)
      omega
    subst this
    repeat refine AW.s rfl ?_
    try dsimp only [List.set_cons_zero, List.set_cons_succ, Option.toList_some, Option.toList_none, List.cons_append, List.nil_append]
    exact AW.rv rfl rfl ⟨rfl, g1, g2, g3⟩
theorem c_mv_144_6 {a i b j n : Nat} (hab : a ≠ b) (hi : i + n ≤ 144) (hj : j + n ≤ 6) : Meth l X d M_X11_move [vR 1144 a, vI (nI i), vR 1006 b, vI (nI j), vI (nI n)] m (fun r m' => r = none ∧ MVd m m' a i b j n) := by
  refine E_X11_move (ls := [vR 1144 a, vI (nI i), vR 1006 b, vI (nI j), vI (nI n), vU]) rfl rfl ?_
  repeat refine AW.u 3 rfl rfl ?_
  try dsimp only [List.set_cons_zero, List.set_cons_succ, Option.toList_some, Option.toList_none, List.cons_append, List.nil_append]
  refine AW.loop (pc := 3) (σ := Unit) n (fun k _ => [vR 1144 a, vI (nI i), vR 1006 b, vI (nI j), vI (nI n), vI (nI k)]) (fun k _ m1 => MVd m m1 a i b j k) (fun k _ m1 hk hm1 ih => ?_) 0 () m (Nat.zero_le _) ⟨fun _ _ => rfl, fun k hk => absurd hk (by omega), fun _ _ => rfl⟩
  obtain ⟨g1, g2, g3⟩ := hm1
  repeat refine AW.s rfl ?_
  try dsimp only [List.set_cons_zero, List.set_cons_succ, Option.toList_some, Option.toList_none, List.cons_append, List.nil_append]
  refine AW.b rfl (fun hc => ?_) (fun hc => ?_)
  · have hlt : k < n := (nI_ltI (by omega) (by omega)).mp hc
    repeat refine AW.s rfl ?_
    try dsimp only [List.set_cons_zero, List.set_cons_succ, Option.toList_some, Option.toList_none, List.cons_append, List.nil_append]
    rw [nI_add, nI_add]
    refine AW.c rfl (vp_in_nI (by omega) (by decide)) ?_
    try dsimp only [List.set_cons_zero, List.set_cons_succ, Option.toList_some, Option.toList_none, List.cons_append, List.nil_append]
    rw [nI_clamp (by omega)]
    refine AW.c rfl (⟨vp_in_nI (by omega) (by decide), fun z => absurd z (by decide)⟩) ?_
    try dsimp only [List.set_cons_zero, List.set_cons_succ, Option.toList_some, Option.toList_none, List.cons_append, List.nil_append]
    rw [nI_clamp (by omega)]
    repeat refine AW.u 3 rfl rfl ?_
    try dsimp only [List.set_cons_zero, List.set_cons_succ, Option.toList_some, Option.toList_none, List.cons_append, List.nil_append]
    rw [nI_1]
    refine ih () _ hlt ⟨fun q hq => by rw [mUp_a hq]; exact g1 q hq, fun q hq => ?_, fun q hq => by rw [mUp_n (Or.inr (by omega))]; exact g3 q (by omega)⟩
    by_cases e : q = k
    · subst e; rw [mUp_s, g1 a hab]
    · rw [mUp_n (Or.inr (by omega))]; exact g2 q (by omega)
  · have : k = n := by
      have : ¬ k < n := fun q => hc ((nI_ltI (by omega) (by omega)).mpr q)
      omega
    subst this
    repeat refine AW.s rfl ?_
    try dsimp only [List.set_cons_zero, List.set_cons_succ, Option.toList_some, Option.toList_none, List.cons_append, List.nil_append]
    exact AW.rv rfl rfl ⟨rfl, g1, g2, g3⟩
end
def IM (m m' : Mem) (c : Nat) : Prop := (∀ a, a ≠ 243 → a ≠ 265 → m' a = m a) ∧ (∀ k, k ≠ 39 → m' 243 k = m 243 k) ∧ m' 243 39 = 1 ∧ (0 < c → m' 265 0 = m 243 0) ∧ (1 < c → m' 265 1 = m 243 1) ∧ (2 < c → m' 265 2 = m 243 5) ∧ (3 < c → m' 265 3 = m 243 9) ∧ (4 < c → m' 265 4 = m 243 14)
theorem IM.mv {m m1 m2 : Mem} {a j n : Nat} (h : IM m m1 5) (hv : MVd m1 m2 a 0 265 j n) (hj : 5 ≤ j) : IM m m2 5 := by
  obtain ⟨h1, h2, h3, h4, h5, h6, h7, h8⟩ := h
  obtain ⟨v1, v2, v3⟩ := hv
  exact ⟨fun a x y => by rw [v1 a y]; exact h1 a x y, fun k hk => by rw [v1 243 (by decide)]; exact h2 k hk, by rw [v1 243 (by decide)]; exact h3, fun z => by rw [v3 0 (by omega)]; exact h4 z, fun z => by rw [v3 1 (by omega)]; exact h5 z, fun z => by rw [v3 2 (by omega)]; exact h6 z, fun z => by rw [v3 3 (by omega)]; exact h7 z, fun z => by rw [v3 4 (by omega)]; exact h8 z⟩
def BM (m m' : Mem) (c : Nat) : Prop := (∀ a, a ≠ 243 → m' a = m a) ∧ (∀ k, k ≠ 0 → k ≠ 1 → k ≠ 5 → k ≠ 9 → k ≠ 14 → m' 243 k = m 243 k) ∧ (0 < c → m' 243 0 = m 265 0) ∧ (1 < c → m' 243 1 = m 265 1) ∧ (2 < c → m' 243 5 = m 265 2) ∧ (3 < c → m' 243 9 = m 265 3) ∧ (4 < c → m' 243 14 = m 265 4)
theorem IM.s0 {m m1 : Mem} (h : IM m m1 0) : IM m (mUp m1 265 0 (m1 243 0)) 1 := by
  obtain ⟨h1, h2, h3, h4, h5, h6, h7, h8⟩ := h
  exact ⟨fun a x y => by rw [mUp_a y]; exact h1 a x y, fun k hk => by rw [mUp_a (by decide)]; exact h2 k hk, by rw [mUp_a (by decide)]; exact h3, fun _ => by rw [mUp_s]; exact h2 0 (by decide), fun z => absurd z (by decide), fun z => absurd z (by decide), fun z => absurd z (by decide), fun z => absurd z (by decide)⟩
theorem BM.s0 {m m1 : Mem} (h : BM m m1 0) : BM m (mUp m1 243 0 (m1 265 0)) 1 := by
  obtain ⟨h1, h2, h3, h4, h5, h6, h7⟩ := h
  exact ⟨fun a x => by rw [mUp_a x]; exact h1 a x, fun k k0 k1 k5 k9 k14 => by rw [mUp_n (Or.inr k0)]; exact h2 k k0 k1 k5 k9 k14, fun _ => by rw [mUp_s, h1 265 (by decide)], fun z => absurd z (by decide), fun z => absurd z (by decide), fun z => absurd z (by decide), fun z => absurd z (by decide)⟩
theorem IM.s1 {m m1 : Mem} (h : IM m m1 1) : IM m (mUp m1 265 1 (m1 243 1)) 2 := by
  obtain ⟨h1, h2, h3, h4, h5, h6, h7, h8⟩ := h
  exact ⟨fun a x y => by rw [mUp_a y]; exact h1 a x y, fun k hk => by rw [mUp_a (by decide)]; exact h2 k hk, by rw [mUp_a (by decide)]; exact h3, fun _ => by rw [mUp_n (Or.inr (by decide))]; exact h4 (by decide), fun _ => by rw [mUp_s]; exact h2 1 (by decide), fun z => absurd z (by decide), fun z => absurd z (by decide), fun z => absurd z (by decide)⟩
theorem BM.s1 {m m1 : Mem} (h : BM m m1 1) : BM m (mUp m1 243 1 (m1 265 1)) 2 := by
  obtain ⟨h1, h2, h3, h4, h5, h6, h7⟩ := h
  exact ⟨fun a x => by rw [mUp_a x]; exact h1 a x, fun k k0 k1 k5 k9 k14 => by rw [mUp_n (Or.inr k1)]; exact h2 k k0 k1 k5 k9 k14, fun _ => by rw [mUp_n (Or.inr (by decide))]; exact h3 (by decide), fun _ => by rw [mUp_s, h1 265 (by decide)], fun z => absurd z (by decide), fun z => absurd z (by decide), fun z => absurd z (by decide)⟩
theorem IM.s2 {m m1 : Mem} (h : IM m m1 2) : IM m (mUp m1 265 2 (m1 243 5)) 3 := by
  obtain ⟨h1, h2, h3, h4, h5, h6, h7, h8⟩ := h
  exact ⟨fun a x y => by rw [mUp_a y]; exact h1 a x y, fun k hk => by rw [mUp_a (by decide)]; exact h2 k hk, by rw [mUp_a (by decide)]; exact h3, fun _ => by rw [mUp_n (Or.inr (by decide))]; exact h4 (by decide), fun _ => by rw [mUp_n (Or.inr (by decide))]; exact h5 (by decide), fun _ => by rw [mUp_s]; exact h2 5 (by decide), fun z => absurd z (by decide), fun z => absurd z (by decide)⟩
theorem BM.s2 {m m1 : Mem} (h : BM m m1 2) : BM m (mUp m1 243 5 (m1 265 2)) 3 := by
  obtain ⟨h1, h2, h3, h4, h5, h6, h7⟩ := h
  exact ⟨fun a x => by rw [mUp_a x]; exact h1 a x, fun k k0 k1 k5 k9 k14 => by rw [mUp_n (Or.inr k5)]; exact h2 k k0 k1 k5 k9 k14, fun _ => by rw [mUp_n (Or.inr (by decide))]; exact h3 (by decide), fun _ => by rw [mUp_n (Or.inr (by decide))]; exact h4 (by decide), fun _ => by rw [mUp_s, h1 265 (by decide)], fun z => absurd z (by decide), fun z => absurd z (by decide)⟩
theorem IM.s3 {m m1 : Mem} (h : IM m m1 3) : IM m (mUp m1 265 3 (m1 243 9)) 4 := by
  obtain ⟨h1, h2, h3, h4, h5, h6, h7, h8⟩ := h
  exact ⟨fun a x y => by rw [mUp_a y]; exact h1 a x y, fun k hk => by rw [mUp_a (by decide)]; exact h2 k hk, by rw [mUp_a (by decide)]; exact h3, fun _ => by rw [mUp_n (Or.inr (by decide))]; exact h4 (by decide), fun _ => by rw [mUp_n (Or.inr (by decide))]; exact h5 (by decide), fun _ => by rw [mUp_n (Or.inr (by decide))]; exact h6 (by decide), fun _ => by rw [mUp_s]; exact h2 9 (by decide), fun z => absurd z (by decide)⟩
theorem BM.s3 {m m1 : Mem} (h : BM m m1 3) : BM m (mUp m1 243 9 (m1 265 3)) 4 := by
  obtain ⟨h1, h2, h3, h4, h5, h6, h7⟩ := h
  exact ⟨fun a x => by rw [mUp_a x]; exact h1 a x, fun k k0 k1 k5 k9 k14 => by rw [mUp_n (Or.inr k9)]; exact h2 k k0 k1 k5 k9 k14, fun _ => by rw [mUp_n (Or.inr (by decide))]; exact h3 (by decide), fun _ => by rw [mUp_n (Or.inr (by decide))]; exact h4 (by decide), fun _ => by rw [mUp_n (Or.inr (by decide))]; exact h5 (by decide), fun _ => by rw [mUp_s, h1 265 (by decide)], fun z => absurd z (by decide)⟩
theorem IM.s4 {m m1 : Mem} (h : IM m m1 4) : IM m (mUp m1 265 4 (m1 243 14)) 5 := by
  obtain ⟨h1, h2, h3, h4, h5, h6, h7, h8⟩ := h
  exact ⟨fun a x y => by rw [mUp_a y]; exact h1 a x y, fun k hk => by rw [mUp_a (by decide)]; exact h2 k hk, by rw [mUp_a (by decide)]; exact h3, fun _ => by rw [mUp_n (Or.inr (by decide))]; exact h4 (by decide), fun _ => by rw [mUp_n (Or.inr (by decide))]; exact h5 (by decide), fun _ => by rw [mUp_n (Or.inr (by decide))]; exact h6 (by decide), fun _ => by rw [mUp_n (Or.inr (by decide))]; exact h7 (by decide), fun _ => by rw [mUp_s]; exact h2 14 (by decide)⟩
theorem BM.s4 {m m1 : Mem} (h : BM m m1 4) : BM m (mUp m1 243 14 (m1 265 4)) 5 := by
  obtain ⟨h1, h2, h3, h4, h5, h6, h7⟩ := h
  exact ⟨fun a x => by rw [mUp_a x]; exact h1 a x, fun k k0 k1 k5 k9 k14 => by rw [mUp_n (Or.inr k14)]; exact h2 k k0 k1 k5 k9 k14, fun _ => by rw [mUp_n (Or.inr (by decide))]; exact h3 (by decide), fun _ => by rw [mUp_n (Or.inr (by decide))]; exact h4 (by decide), fun _ => by rw [mUp_n (Or.inr (by decide))]; exact h5 (by decide), fun _ => by rw [mUp_n (Or.inr (by decide))]; exact h6 (by decide), fun _ => by rw [mUp_s, h1 265 (by decide)]⟩
theorem vpl (k n : Nat) (h : k < n) (h2 : n < 2 ^ 31) : vp_in (nI k) n := vp_in_nI h h2
section
variable {l : Launch} {X : XT} {d : Nat} {m : Mem} {Ω : OM}
theorem M_image (hd : 5 ≤ d) (hW : WO Ω) (hI : InvM m Ω) : Meth l X d M_X11_image [vR 12 243] m (fun r m' => r = some (vI (imageF Ω).1) ∧ InvM m' (imageF Ω).2 ∧ KM m m') := by
  obtain ⟨d, rfl⟩ : ∃ e, d = e + 1 := ⟨d - 1, by omega⟩
  refine E_X11_image (ls := [vR 12 243]) rfl rfl ?_
  repeat refine AW.s rfl ?_
  try dsimp only [List.set_cons_zero, List.set_cons_succ, Option.toList_some, Option.toList_none, List.cons_append, List.nil_append]
  refine AW.c rfl (Or.inr rfl) ?_
  try dsimp only [List.set_cons_zero, List.set_cons_succ, Option.toList_some, Option.toList_none, List.cons_append, List.nil_append]
  have k0 : IM m (mUp m 243 39 1) 0 := ⟨fun a x _ => mUp_a x, fun k hk => mUp_n (Or.inr hk), mUp_s _ _ _ _, fun z => absurd z (by decide), fun z => absurd z (by decide), fun z => absurd z (by decide), fun z => absurd z (by decide), fun z => absurd z (by decide)⟩
  generalize mUp m 243 39 1 = mA at *
  repeat refine AW.s rfl ?_
  try dsimp only [List.set_cons_zero, List.set_cons_succ, Option.toList_some, Option.toList_none, List.cons_append, List.nil_append]
  refine AW.c rfl (⟨vpl 0 144 (by decide) (by decide), fun z => absurd z (by decide)⟩) ?_
  try dsimp only [List.set_cons_zero, List.set_cons_succ, Option.toList_some, Option.toList_none, List.cons_append, List.nil_append]
  have k1 := k0.s0
  generalize hz0 : mUp mA (243 + 22) (Int32.toNatClampNeg 0) (mA 243 0) = mA1 at *
  have k1 : IM m mA1 1 := by rw [← hz0]; exact k1
  clear hz0 k0
  repeat refine AW.s rfl ?_
  try dsimp only [List.set_cons_zero, List.set_cons_succ, Option.toList_some, Option.toList_none, List.cons_append, List.nil_append]
  refine AW.c rfl (⟨vpl 1 144 (by decide) (by decide), fun z => absurd z (by decide)⟩) ?_
  try dsimp only [List.set_cons_zero, List.set_cons_succ, Option.toList_some, Option.toList_none, List.cons_append, List.nil_append]
  have k2 := k1.s1
  generalize hz1 : mUp mA1 (243 + 22) (Int32.toNatClampNeg 1) (mA1 243 1) = mA2 at *
  have k2 : IM m mA2 2 := by rw [← hz1]; exact k2
  clear hz1 k1
  repeat refine AW.s rfl ?_
  try dsimp only [List.set_cons_zero, List.set_cons_succ, Option.toList_some, Option.toList_none, List.cons_append, List.nil_append]
  refine AW.c rfl (⟨vpl 2 144 (by decide) (by decide), fun z => absurd z (by decide)⟩) ?_
  try dsimp only [List.set_cons_zero, List.set_cons_succ, Option.toList_some, Option.toList_none, List.cons_append, List.nil_append]
  have k3 := k2.s2
  generalize hz2 : mUp mA2 (243 + 22) (Int32.toNatClampNeg 2) (mA2 243 5) = mA3 at *
  have k3 : IM m mA3 3 := by rw [← hz2]; exact k3
  clear hz2 k2
  repeat refine AW.s rfl ?_
  try dsimp only [List.set_cons_zero, List.set_cons_succ, Option.toList_some, Option.toList_none, List.cons_append, List.nil_append]
  refine AW.c rfl (⟨vpl 3 144 (by decide) (by decide), fun z => absurd z (by decide)⟩) ?_
  try dsimp only [List.set_cons_zero, List.set_cons_succ, Option.toList_some, Option.toList_none, List.cons_append, List.nil_append]
  have k4 := k3.s3
  generalize hz3 : mUp mA3 (243 + 22) (Int32.toNatClampNeg 3) (mA3 243 9) = mA4 at *
  have k4 : IM m mA4 4 := by rw [← hz3]; exact k4
  clear hz3 k3
  repeat refine AW.s rfl ?_
  try dsimp only [List.set_cons_zero, List.set_cons_succ, Option.toList_some, Option.toList_none, List.cons_append, List.nil_append]
  refine AW.c rfl (⟨vpl 4 144 (by decide) (by decide), fun z => absurd z (by decide)⟩) ?_
  try dsimp only [List.set_cons_zero, List.set_cons_succ, Option.toList_some, Option.toList_none, List.cons_append, List.nil_append]
  have k5 := k4.s4
  generalize hz4 : mUp mA4 (243 + 22) (Int32.toNatClampNeg 4) (mA4 243 14) = mA5 at *
  have k5 : IM m mA5 5 := by rw [← hz4]; exact k5
  clear hz4 k4
  repeat refine AW.s rfl ?_
  try dsimp only [List.set_cons_zero, List.set_cons_succ, Option.toList_some, Option.toList_none, List.cons_append, List.nil_append]
  refine AW.S k_11_316 ((c_mv_80_144 (a := 244) (i := 0) (b := 265) (j := 10) (n := 80) (by decide) (by decide) (by decide))) rfl rfl rfl rfl (fun r1 m1 hq => ?_)
  obtain ⟨rfl, v1⟩ := hq
  have j1 := k5.mv v1 (by decide)
  repeat refine AW.s rfl ?_
  try dsimp only [List.set_cons_zero, List.set_cons_succ, Option.toList_some, Option.toList_none, List.cons_append, List.nil_append]
  refine AW.S k_11_316 ((c_mv_8_144 (a := 245) (i := 0) (b := 265) (j := 90) (n := 8) (by decide) (by decide) (by decide))) rfl rfl rfl rfl (fun r1 m2 hq => ?_)
  obtain ⟨rfl, v2⟩ := hq
  have j2 := j1.mv v2 (by decide)
  repeat refine AW.s rfl ?_
  try dsimp only [List.set_cons_zero, List.set_cons_succ, Option.toList_some, Option.toList_none, List.cons_append, List.nil_append]
  refine AW.S k_11_316 ((c_mv_8_144 (a := 246) (i := 0) (b := 265) (j := 98) (n := 8) (by decide) (by decide) (by decide))) rfl rfl rfl rfl (fun r1 m3 hq => ?_)
  obtain ⟨rfl, v3⟩ := hq
  have j3 := j2.mv v3 (by decide)
  repeat refine AW.s rfl ?_
  try dsimp only [List.set_cons_zero, List.set_cons_succ, Option.toList_some, Option.toList_none, List.cons_append, List.nil_append]
  refine AW.S k_11_316 ((c_mv_6_144 (a := 248) (i := 0) (b := 265) (j := 106) (n := 6) (by decide) (by decide) (by decide))) rfl rfl rfl rfl (fun r1 m4 hq => ?_)
  obtain ⟨rfl, v4⟩ := hq
  have j4 := j3.mv v4 (by decide)
  repeat refine AW.s rfl ?_
  try dsimp only [List.set_cons_zero, List.set_cons_succ, Option.toList_some, Option.toList_none, List.cons_append, List.nil_append]
  refine AW.S k_11_316 ((c_mv_6_144 (a := 249) (i := 0) (b := 265) (j := 112) (n := 6) (by decide) (by decide) (by decide))) rfl rfl rfl rfl (fun r1 m5 hq => ?_)
  obtain ⟨rfl, v5⟩ := hq
  have j5 := j4.mv v5 (by decide)
  repeat refine AW.s rfl ?_
  try dsimp only [List.set_cons_zero, List.set_cons_succ, Option.toList_some, Option.toList_none, List.cons_append, List.nil_append]
  refine AW.S k_11_316 ((c_mv_8_144 (a := 250) (i := 0) (b := 265) (j := 118) (n := 8) (by decide) (by decide) (by decide))) rfl rfl rfl rfl (fun r1 m6 hq => ?_)
  obtain ⟨rfl, v6⟩ := hq
  have j6 := j5.mv v6 (by decide)
  obtain ⟨q1, q2, q3, q4, q5, q6, q7, q8⟩ := j6
  obtain ⟨i1, i2, i3, i4, i5, i6, i7, i8, i9, i10⟩ := hI
  obtain ⟨s1, s2, s3, s4, s5, s6, s7, s8⟩ := i1
  repeat refine AW.s rfl ?_
  try dsimp only [List.set_cons_zero, List.set_cons_succ, Option.toList_some, Option.toList_none, List.cons_append, List.nil_append]
  rw [show m6 243 1 = nI ((oG Ω) 0 1) by rw [q2 1 (by decide)]; exact s2]
  refine AW.ri rfl rfl rfl ⟨rfl, ?_, fun a ha => q1 a (by omega) (by omega)⟩
  have hw1 := hW.1
  refine ⟨RepM.fr ⟨s1, s2, s3, s4, s5, s6, s7, s8⟩ (q2 0 (by decide)) (q2 1 (by decide)) (q2 5 (by decide)) (q2 9 (by decide)) (q2 14 (by decide)) (fun a x1 x2 => q1 a (by omega) (by omega)), q3, fun _ => ?_, by rw [q2 13 (by decide)]; exact i4, fun t ht p hp => ?_, by rw [q2 12 (by decide)]; exact i6, by rw [q1 251 (by decide) (by decide)]; exact i7, by rw [q1 266 (by decide) (by decide), q1 267 (by decide) (by decide), q1 268 (by decide) (by decide)]; exact i8, by rw [q1 254 (by decide) (by decide)]; exact i9, by rw [q1 255 (by decide) (by decide)]; exact i10⟩
  · have e0 := k5.1
    refine ⟨by rw [q4 (by decide)]; exact s1, by rw [q5 (by decide)]; exact s2, by rw [q6 (by decide)]; exact s3, by rw [q7 (by decide)]; exact s4, by rw [q8 (by decide)]; exact s5, fun w hw => ?_, fun r hr => ?_, fun i hi => ?_⟩
    · have hw : w < (oG Ω) 0 1 := hw
      have hw8 := hw1.2.1
      obtain ⟨b1, b2, b3, b4⟩ := hw1.2.2.2.2.2.1 w hw
      obtain ⟨x1, x2, x3⟩ := s6 w hw
      refine ⟨?_, ?_, fun k hk => ?_⟩
      · rw [v6.2.2 _ (by omega), v5.2.2 _ (by omega), v4.2.2 _ (by omega), v3.2.2 _ (by omega), v2.2.1 w (by omega), Nat.zero_add, j1.1 245 (by decide) (by decide)]
        exact x1
      · rw [v6.2.2 _ (by omega), v5.2.2 _ (by omega), v4.2.2 _ (by omega), v3.2.1 w (by omega), Nat.zero_add, j2.1 246 (by decide) (by decide)]
        exact x2
      · have hk : k < (oG Ω) 1 w := hk
        rw [v6.2.2 _ (by omega), v5.2.2 _ (by omega), v4.2.2 _ (by omega), v3.2.2 _ (by omega), v2.2.2 _ (by omega), v1.2.1 (10 * w + k) (by omega), Nat.zero_add, k5.1 244 (by decide) (by decide)]
        exact x3 k hk
    · have hr : r < (oG Ω) 0 2 := hr
      have hr6 := hw1.2.2.1
      obtain ⟨x1, x2, x3⟩ := s7 r hr
      refine ⟨?_, ?_⟩
      · rw [v6.2.2 _ (by omega), v5.2.2 _ (by omega), v4.2.1 r (by omega), Nat.zero_add, j3.1 248 (by decide) (by decide)]
        exact x2
      · rw [v6.2.2 _ (by omega), v5.2.1 r (by omega), Nat.zero_add, j4.1 249 (by decide) (by decide)]
        exact x3
    · have hi : i < (oG Ω) 0 3 := hi
      have hi8 := hw1.2.2.2.1
      rw [v6.2.1 i (by omega), Nat.zero_add, j5.1 250 (by decide) (by decide)]
      exact s8 i hi
  · obtain ⟨cs, c1, c2⟩ := i5 t ht p hp
    exact ⟨cs, c1.fr (q1 252 (by decide) (by decide)) (q1 253 (by decide) (by decide)), c2⟩
theorem M_back (hd : 5 ≤ d) (hW : WO Ω) (hI : InvM m Ω) : Meth l X d M_X11_back [vR 12 243] m (fun r m' => r = some (vI (backF Ω).1) ∧ InvM m' (backF Ω).2 ∧ KM m m') := by
  obtain ⟨d, rfl⟩ : ∃ e, d = e + 1 := ⟨d - 1, by omega⟩
  obtain ⟨i1, i2, i3, i4, i5, i6, i7, i8, i9, i10⟩ := id hI
  refine E_X11_back (ls := [vR 12 243]) rfl rfl ?_
  repeat refine AW.s rfl ?_
  try dsimp only [List.set_cons_zero, List.set_cons_succ, Option.toList_some, Option.toList_none, List.cons_append, List.nil_append]
  rw [i2]
  by_cases hk : oK Ω = true
  · have e0 : backF Ω = (nI ((oX Ω) 0 1), uG Ω (oX Ω)) := by unfold backF; rw [if_pos hk]
    rw [e0, if_pos hk]
    obtain ⟨t1, t2, t3, t4, t5, t6, t7, t8⟩ := i3 hk
    obtain ⟨w1, w2, w3, w4⟩ := hW.2.1 hk
    have s7 := i1.2.2.2.2.2.2.1
    have k0 : BM m m 0 := ⟨fun a _ => rfl, fun _ _ _ _ _ _ => rfl, fun z => absurd z (by decide), fun z => absurd z (by decide), fun z => absurd z (by decide), fun z => absurd z (by decide), fun z => absurd z (by decide)⟩
    refine AW.b rfl (fun hc => ?_) (fun hc => ?_)
    · exact absurd hc (by decide)
    · repeat refine AW.s rfl ?_
      try dsimp only [List.set_cons_zero, List.set_cons_succ, Option.toList_some, Option.toList_none, List.cons_append, List.nil_append]
      refine AW.c rfl (vpl 0 144 (by decide) (by decide)) ?_
      try dsimp only [List.set_cons_zero, List.set_cons_succ, Option.toList_some, Option.toList_none, List.cons_append, List.nil_append]
      iterate 1 refine AW.s rfl ?_
      try dsimp only [List.set_cons_zero, List.set_cons_succ, Option.toList_some, Option.toList_none, List.cons_append, List.nil_append]
      have k1 := k0.s0
      generalize hz0 : mUp m 243 0 (m (243 + 22) (Int32.toNatClampNeg 0)) = mA1 at *
      have k1 : BM m mA1 1 := by rw [← hz0]; exact k1
      clear hz0 k0
      repeat refine AW.s rfl ?_
      try dsimp only [List.set_cons_zero, List.set_cons_succ, Option.toList_some, Option.toList_none, List.cons_append, List.nil_append]
      refine AW.c rfl (vpl 1 144 (by decide) (by decide)) ?_
      try dsimp only [List.set_cons_zero, List.set_cons_succ, Option.toList_some, Option.toList_none, List.cons_append, List.nil_append]
      iterate 1 refine AW.s rfl ?_
      try dsimp only [List.set_cons_zero, List.set_cons_succ, Option.toList_some, Option.toList_none, List.cons_append, List.nil_append]
      have k2 := k1.s1
      generalize hz1 : mUp mA1 243 1 (mA1 (243 + 22) (Int32.toNatClampNeg 1)) = mA2 at *
      have k2 : BM m mA2 2 := by rw [← hz1]; exact k2
      clear hz1 k1
      repeat refine AW.s rfl ?_
      try dsimp only [List.set_cons_zero, List.set_cons_succ, Option.toList_some, Option.toList_none, List.cons_append, List.nil_append]
      refine AW.c rfl (vpl 2 144 (by decide) (by decide)) ?_
      try dsimp only [List.set_cons_zero, List.set_cons_succ, Option.toList_some, Option.toList_none, List.cons_append, List.nil_append]
      iterate 1 refine AW.s rfl ?_
      try dsimp only [List.set_cons_zero, List.set_cons_succ, Option.toList_some, Option.toList_none, List.cons_append, List.nil_append]
      have k3 := k2.s2
      generalize hz2 : mUp mA2 243 5 (mA2 (243 + 22) (Int32.toNatClampNeg 2)) = mA3 at *
      have k3 : BM m mA3 3 := by rw [← hz2]; exact k3
      clear hz2 k2
      repeat refine AW.s rfl ?_
      try dsimp only [List.set_cons_zero, List.set_cons_succ, Option.toList_some, Option.toList_none, List.cons_append, List.nil_append]
      refine AW.c rfl (vpl 3 144 (by decide) (by decide)) ?_
      try dsimp only [List.set_cons_zero, List.set_cons_succ, Option.toList_some, Option.toList_none, List.cons_append, List.nil_append]
      iterate 1 refine AW.s rfl ?_
      try dsimp only [List.set_cons_zero, List.set_cons_succ, Option.toList_some, Option.toList_none, List.cons_append, List.nil_append]
      have k4 := k3.s3
      generalize hz3 : mUp mA3 243 9 (mA3 (243 + 22) (Int32.toNatClampNeg 3)) = mA4 at *
      have k4 : BM m mA4 4 := by rw [← hz3]; exact k4
      clear hz3 k3
      repeat refine AW.s rfl ?_
      try dsimp only [List.set_cons_zero, List.set_cons_succ, Option.toList_some, Option.toList_none, List.cons_append, List.nil_append]
      refine AW.c rfl (vpl 4 144 (by decide) (by decide)) ?_
      try dsimp only [List.set_cons_zero, List.set_cons_succ, Option.toList_some, Option.toList_none, List.cons_append, List.nil_append]
      iterate 1 refine AW.s rfl ?_
      try dsimp only [List.set_cons_zero, List.set_cons_succ, Option.toList_some, Option.toList_none, List.cons_append, List.nil_append]
      have k5 := k4.s4
      generalize hz4 : mUp mA4 243 14 (mA4 (243 + 22) (Int32.toNatClampNeg 4)) = mA5 at *
      have k5 : BM m mA5 5 := by rw [← hz4]; exact k5
      clear hz4 k4
      repeat refine AW.s rfl ?_
      try dsimp only [List.set_cons_zero, List.set_cons_succ, Option.toList_some, Option.toList_none, List.cons_append, List.nil_append]
      refine AW.S k_11_316 ((c_mv_144_80 (a := 265) (i := 10) (b := 244) (j := 0) (n := 80) (by decide) (by decide) (by decide))) rfl rfl rfl rfl (fun r1 m1 hq => ?_)
      obtain ⟨rfl, v1⟩ := hq
      repeat refine AW.s rfl ?_
      try dsimp only [List.set_cons_zero, List.set_cons_succ, Option.toList_some, Option.toList_none, List.cons_append, List.nil_append]
      refine AW.S k_11_316 ((c_mv_144_8 (a := 265) (i := 90) (b := 245) (j := 0) (n := 8) (by decide) (by decide) (by decide))) rfl rfl rfl rfl (fun r1 m2 hq => ?_)
      obtain ⟨rfl, v2⟩ := hq
      repeat refine AW.s rfl ?_
      try dsimp only [List.set_cons_zero, List.set_cons_succ, Option.toList_some, Option.toList_none, List.cons_append, List.nil_append]
      refine AW.S k_11_316 ((c_mv_144_8 (a := 265) (i := 98) (b := 246) (j := 0) (n := 8) (by decide) (by decide) (by decide))) rfl rfl rfl rfl (fun r1 m3 hq => ?_)
      obtain ⟨rfl, v3⟩ := hq
      repeat refine AW.s rfl ?_
      try dsimp only [List.set_cons_zero, List.set_cons_succ, Option.toList_some, Option.toList_none, List.cons_append, List.nil_append]
      refine AW.S k_11_316 ((c_mv_144_6 (a := 265) (i := 106) (b := 248) (j := 0) (n := 6) (by decide) (by decide) (by decide))) rfl rfl rfl rfl (fun r1 m4 hq => ?_)
      obtain ⟨rfl, v4⟩ := hq
      repeat refine AW.s rfl ?_
      try dsimp only [List.set_cons_zero, List.set_cons_succ, Option.toList_some, Option.toList_none, List.cons_append, List.nil_append]
      refine AW.S k_11_316 ((c_mv_144_6 (a := 265) (i := 112) (b := 249) (j := 0) (n := 6) (by decide) (by decide) (by decide))) rfl rfl rfl rfl (fun r1 m5 hq => ?_)
      obtain ⟨rfl, v5⟩ := hq
      repeat refine AW.s rfl ?_
      try dsimp only [List.set_cons_zero, List.set_cons_succ, Option.toList_some, Option.toList_none, List.cons_append, List.nil_append]
      refine AW.S k_11_316 ((c_mv_144_8 (a := 265) (i := 118) (b := 250) (j := 0) (n := 8) (by decide) (by decide) (by decide))) rfl rfl rfl rfl (fun r1 m6 hq => ?_)
      obtain ⟨rfl, v6⟩ := hq
      have f6 : ∀ a, (a < 244 ∨ a = 247 ∨ 250 < a) → m6 a = mA5 a := fun a ha => by rw [v6.1 a (by omega), v5.1 a (by omega), v4.1 a (by omega), v3.1 a (by omega), v2.1 a (by omega), v1.1 a (by omega)]
      obtain ⟨q1, q2, q3, q4, q5, q6, q7⟩ := k5
      have fo : ∀ a, (a < 243 ∨ a = 247 ∨ 250 < a) → m6 a = m a := fun a ha => by rw [f6 a (by omega), q1 a (by omega)]
      repeat refine AW.s rfl ?_
      try dsimp only [List.set_cons_zero, List.set_cons_succ, Option.toList_some, Option.toList_none, List.cons_append, List.nil_append]
      rw [show m6 243 1 = nI ((oX Ω) 0 1) by rw [f6 243 (by omega), q4 (by decide)]; exact t2]
      refine AW.ri rfl rfl rfl ⟨rfl, hI.g ?_ (fun a x1 x2 => fo a (by omega)) (fun k hk => by rw [f6 243 (by omega)]; exact q2 k (by omega) (by omega) (by omega) (by omega) (by omega)), fun a ha => fo a (by omega)⟩
      refine ⟨by rw [f6 243 (by omega), q3 (by decide)]; exact t1, by rw [f6 243 (by omega), q4 (by decide)]; exact t2, by rw [f6 243 (by omega), q5 (by decide)]; exact t3, by rw [f6 243 (by omega), q6 (by decide)]; exact t4, by rw [f6 243 (by omega), q7 (by decide)]; exact t5, fun w hw => ?_, fun r hr => ?_, fun i hi => ?_⟩
      · have hw8 := w1.2.1
        obtain ⟨b1, b2, b3, b4⟩ := w1.2.2.2.2.2.1 w hw
        obtain ⟨x1, x2, x3⟩ := t6 w hw
        refine ⟨?_, ?_, fun k hk => ?_⟩
        · rw [v6.1 245 (by decide), v5.1 245 (by decide), v4.1 245 (by decide), v3.1 245 (by decide), ← Nat.zero_add w, v2.2.1 w (by omega), v1.1 265 (by decide), q1 265 (by decide), Nat.zero_add]
          exact x1
        · rw [v6.1 246 (by decide), v5.1 246 (by decide), v4.1 246 (by decide), ← Nat.zero_add w, v3.2.1 w (by omega), v2.1 265 (by decide), v1.1 265 (by decide), q1 265 (by decide), Nat.zero_add]
          exact x2
        · rw [v6.1 244 (by decide), v5.1 244 (by decide), v4.1 244 (by decide), v3.1 244 (by decide), v2.1 244 (by decide), ← Nat.zero_add (10 * w + k), v1.2.1 (10 * w + k) (by omega), q1 265 (by decide)]
          exact x3 k hk
      · have hr6 := w1.2.2.1
        obtain ⟨x2, x3⟩ := t7 r hr
        refine ⟨?_, ?_, ?_⟩
        · rw [fo 247 (by omega), w3 r hr]
          exact (s7 r (by omega)).1
        · rw [v6.1 248 (by decide), v5.1 248 (by decide), ← Nat.zero_add r, v4.2.1 r (by omega), v3.1 265 (by decide), v2.1 265 (by decide), v1.1 265 (by decide), q1 265 (by decide), Nat.zero_add]
          exact x2
        · rw [v6.1 249 (by decide), ← Nat.zero_add r, v5.2.1 r (by omega), v4.1 265 (by decide), v3.1 265 (by decide), v2.1 265 (by decide), v1.1 265 (by decide), q1 265 (by decide), Nat.zero_add]
          exact x3
      · have hi8 := w1.2.2.2.1
        rw [← Nat.zero_add i, v6.2.1 i (by omega), v5.1 265 (by decide), v4.1 265 (by decide), v3.1 265 (by decide), v2.1 265 (by decide), v1.1 265 (by decide), q1 265 (by decide), Nat.zero_add]
        exact t8 i hi
  · have e0 : backF Ω = (-3, Ω) := by unfold backF; rw [if_neg hk]
    rw [e0, if_neg hk]
    refine AW.b rfl (fun hc => ?_) (fun hc => ?_)
    · repeat refine AW.s rfl ?_
      try dsimp only [List.set_cons_zero, List.set_cons_succ, Option.toList_some, Option.toList_none, List.cons_append, List.nil_append]
      exact AW.ri rfl rfl rfl ⟨rfl, hI, KM.rf⟩
    · exact absurd rfl hc
end

