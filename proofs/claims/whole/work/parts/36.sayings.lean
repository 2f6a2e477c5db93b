/-- a Sayings holds these -/
def RepYs (m : Mem) (H n : Nat) (f : Nat → Option (List Nat)) : Prop := m H 1 = nI n ∧ ∀ w, w < n → RY m (H + 1 + 1 + 2 * w) (f w)
theorem RepYs.fr {m m' : Mem} {H n : Nat} {f : Nat → Option (List Nat)} (h : RepYs m H n f) (hn : n ≤ 8) (hf : ∀ a, H ≤ a → a ≤ H + 17 → m' a = m a) : RepYs m' H n f := ⟨by rw [hf H (by omega) (by omega)]; exact h.1, fun w hw => (h.2 w hw).fr (hf _ (by omega) (by omega)) (hf _ (by omega) (by omega))⟩
theorem c_beginAll {l : Launch} {X : XT} {d : Nat} {H : Nat} {m : Mem} {σ : Sg} (hd : 2 ≤ d) (hs : RepS m 1 σ) (hσ : WF σ) (hH : 18 ≤ H) : Meth l X d M_X5_begin [vR 6 H, vR 8 1] m (fun r1 m' => r1 = none ∧ RepYs m' H (σ 0 1) (fun w => some (wl σ w)) ∧ ∀ a, (a < H ∨ H + 17 < a) → m' a = m a) := by
  obtain ⟨d, rfl⟩ : ∃ e, d = e + 1 := ⟨d - 1, by omega⟩
  have hn := hσ.2.1
  refine E_X5_begin (ls := [vR 6 H, vR 8 1, vU]) rfl rfl ?_
  repeat refine AW.u 10 rfl rfl ?_
  try dsimp only [List.set_cons_zero, List.set_cons_succ, Option.toList_some, Option.toList_none, List.cons_append, List.nil_append]
  have hW : m 1 4 = nI (σ 0 1) := hs.2.1
  rw [hW]
  refine AW.loop (pc := 10) (σ := Unit) (σ 0 1) (fun i _ => [vR 6 H, vR 8 1, vI (nI i)]) (fun i _ m1 => (∀ a, (a < H ∨ H + 17 < a) → m1 a = m a) ∧ m1 H 1 = nI (σ 0 1) ∧ ∀ w, w < i → RY m1 (H + 1 + 1 + 2 * w) (some (wl σ w))) (fun i _ m1 hi hm1 ih => ?_) 0 () _ (Nat.zero_le _) ⟨fun a ha => mUp_a (by omega), mUp_s _ _ _ _, fun w hw => absurd hw (by omega)⟩
  obtain ⟨hf, hz, hv⟩ := hm1
  repeat refine AW.s rfl ?_
  try dsimp only [List.set_cons_zero, List.set_cons_succ, Option.toList_some, Option.toList_none, List.cons_append, List.nil_append]
  rw [hz]
  refine AW.b rfl (fun hc => ?_) (fun hc => ?_)
  · have hlt : i < σ 0 1 := (nI_ltI (by omega) (by omega)).mp hc
    repeat refine AW.s rfl ?_
    try dsimp only [List.set_cons_zero, List.set_cons_succ, Option.toList_some, Option.toList_none, List.cons_append, List.nil_append]
    refine AW.c rfl (vp_in_nI (by omega) (by decide)) ?_
    try dsimp only [List.set_cons_zero, List.set_cons_succ, Option.toList_some, Option.toList_none, List.cons_append, List.nil_append]
    rw [nI_clamp (by omega)]
    repeat refine AW.s rfl ?_
    try dsimp only [List.set_cons_zero, List.set_cons_succ, Option.toList_some, Option.toList_none, List.cons_append, List.nil_append]
    refine AW.V k_5_27 ((c_begin (by omega) (hs.fr hσ.2.1 (fun a h1 h2 => hf a (by omega))) hσ hlt (by omega))) rfl rfl rfl rfl rfl rfl (fun r1 m1 hq => ?_)
    rename_i m2
    obtain ⟨rfl, p1, p2⟩ := hq
    repeat refine AW.u 10 rfl rfl ?_
    try dsimp only [List.set_cons_zero, List.set_cons_succ, Option.toList_some, Option.toList_none, List.cons_append, List.nil_append]
    rw [nI_1]
    refine ih () _ hlt ⟨fun a ha => by rw [p2 a (by omega) (by omega)]; exact hf a ha, by rw [p2 H (by omega) (by omega)]; exact hz, fun w hw => ?_⟩
    by_cases e : w = i
    · subst e; exact p1
    · exact (hv w (by omega)).fr (p2 _ (by omega) (by omega)) (p2 _ (by omega) (by omega))
  · have : i = σ 0 1 := by
      have : ¬ i < σ 0 1 := fun q => hc ((nI_ltI (by omega) (by omega)).mpr q)
      omega
    subst this
    exact AW.rv rfl rfl ⟨rfl, ⟨hz, hv⟩, hf⟩
theorem c_sayAll {l : Launch} {X : XT} {d : Nat} {H ρ : Nat} {m : Mem} {σ : Sg} {rw : List Nat} (hd : 4 ≤ d) (hs : RepS m 1 σ) (hσ : WF σ) (hrw : WFr σ rw) (hρ : RepR m ρ rw) (hH : 18 ≤ H) (hρH : ρ + 1 < H ∨ H + 17 < ρ) : Meth l X d M_X5_sayAll [vR 6 H, vR 8 1, vR 4 ρ] m (fun r1 m' => r1 = none ∧ RepYs m' H (σ 0 1) (saidS σ rw) ∧ ∀ a, (a < H ∨ H + 17 < a) → m' a = m a) := by
  obtain ⟨d, rfl⟩ : ∃ e, d = e + 1 := ⟨d - 1, by omega⟩
  have hn := hσ.2.1
  refine E_X5_sayAll (ls := [vR 6 H, vR 8 1, vR 4 ρ, vU]) rfl rfl ?_
  repeat refine AW.u 10 rfl rfl ?_
  try dsimp only [List.set_cons_zero, List.set_cons_succ, Option.toList_some, Option.toList_none, List.cons_append, List.nil_append]
  have hW : m 1 4 = nI (σ 0 1) := hs.2.1
  rw [hW]
  refine AW.loop (pc := 10) (σ := Unit) (σ 0 1) (fun i _ => [vR 6 H, vR 8 1, vR 4 ρ, vI (nI i)]) (fun i _ m1 => (∀ a, (a < H ∨ H + 17 < a) → m1 a = m a) ∧ m1 H 1 = nI (σ 0 1) ∧ ∀ w, w < i → RY m1 (H + 1 + 1 + 2 * w) (saidS σ rw w)) (fun i _ m1 hi hm1 ih => ?_) 0 () _ (Nat.zero_le _) ⟨fun a ha => mUp_a (by omega), mUp_s _ _ _ _, fun w hw => absurd hw (by omega)⟩
  obtain ⟨hf, hz, hv⟩ := hm1
  repeat refine AW.s rfl ?_
  try dsimp only [List.set_cons_zero, List.set_cons_succ, Option.toList_some, Option.toList_none, List.cons_append, List.nil_append]
  rw [hz]
  refine AW.b rfl (fun hc => ?_) (fun hc => ?_)
  · have hlt : i < σ 0 1 := (nI_ltI (by omega) (by omega)).mp hc
    repeat refine AW.s rfl ?_
    try dsimp only [List.set_cons_zero, List.set_cons_succ, Option.toList_some, Option.toList_none, List.cons_append, List.nil_append]
    refine AW.c rfl (vp_in_nI (by omega) (by decide)) ?_
    try dsimp only [List.set_cons_zero, List.set_cons_succ, Option.toList_some, Option.toList_none, List.cons_append, List.nil_append]
    rw [nI_clamp (by omega)]
    repeat refine AW.s rfl ?_
    try dsimp only [List.set_cons_zero, List.set_cons_succ, Option.toList_some, Option.toList_none, List.cons_append, List.nil_append]
    refine AW.V k_5_27 ((c_begin (by omega) (hs.fr hσ.2.1 (fun a h1 h2 => hf a (by omega))) hσ hlt (by omega))) rfl rfl rfl rfl rfl rfl (fun r1 m1 hq => ?_)
    rename_i m2
    obtain ⟨rfl, p1, p2⟩ := hq
    repeat refine AW.s rfl ?_
    try dsimp only [List.set_cons_zero, List.set_cons_succ, Option.toList_some, Option.toList_none, List.cons_append, List.nil_append]
    refine AW.c rfl (vp_in_nI (by omega) (by decide)) ?_
    try dsimp only [List.set_cons_zero, List.set_cons_succ, Option.toList_some, Option.toList_none, List.cons_append, List.nil_append]
    rw [nI_clamp (by omega)]
    repeat refine AW.s rfl ?_
    try dsimp only [List.set_cons_zero, List.set_cons_succ, Option.toList_some, Option.toList_none, List.cons_append, List.nil_append]
    refine AW.V k_5_31 ((c_turnByRow (ρ := ρ) (rw := rw) (by omega) (hs.fr hσ.2.1 (fun a h1 h2 => by rw [p2 a (by omega) (by omega)]; exact hf a (by omega))) hσ hrw (hρ.fr (by rw [p2 ρ (by omega) (by omega)]; exact hf ρ (by omega)) (by rw [p2 (ρ + 1) (by omega) (by omega)]; exact hf (ρ + 1) (by omega))) (by omega) (by omega) p1 (wl_wf hσ hlt))) rfl rfl rfl rfl rfl rfl (fun r1 m1 hq => ?_)
    rename_i m3
    obtain ⟨rfl, p3, p4⟩ := hq
    repeat refine AW.u 10 rfl rfl ?_
    try dsimp only [List.set_cons_zero, List.set_cons_succ, Option.toList_some, Option.toList_none, List.cons_append, List.nil_append]
    rw [nI_1]
    refine ih () _ hlt ⟨fun a ha => by rw [p4 a (by omega) (by omega), p2 a (by omega) (by omega)]; exact hf a ha, by rw [p4 H (by omega) (by omega), p2 H (by omega) (by omega)]; exact hz, fun w hw => ?_⟩
    by_cases e : w = i
    · subst e; exact p3
    · exact (hv w (by omega)).fr (by rw [p4 _ (by omega) (by omega), p2 _ (by omega) (by omega)]) (by rw [p4 _ (by omega) (by omega), p2 _ (by omega) (by omega)])
  · have : i = σ 0 1 := by
      have : ¬ i < σ 0 1 := fun q => hc ((nI_ltI (by omega) (by omega)).mpr q)
      omega
    subst this
    exact AW.rv rfl rfl ⟨rfl, ⟨hz, hv⟩, hf⟩
theorem c_becomeTurned {l : Launch} {X : XT} {d : Nat} {H K n r : Nat} {m : Mem} {σ : Sg} {f : Nat → Option (List Nat)} (hd : 3 ≤ d) (hs : RepS m 1 σ) (hσ : WF σ) (hr : r < σ 0 2) (hn : n ≤ 8) (hK : RepYs m K n f) (hfw : ∀ w, w < n → WFo (f w)) (hH : 18 ≤ H) (hKH : K + 17 < H ∨ H + 17 < K) : Meth l X d M_X5_becomeTurned [vR 6 H, vR 6 K, vR 8 1, vI (nI r)] m (fun r1 m' => r1 = none ∧ RepYs m' H n (fun w => turnS σ r (f w)) ∧ ∀ a, (a < H ∨ H + 17 < a) → m' a = m a) := by
  obtain ⟨d, rfl⟩ : ∃ e, d = e + 1 := ⟨d - 1, by omega⟩
  refine E_X5_becomeTurned (ls := [vR 6 H, vR 6 K, vR 8 1, vI (nI r), vU]) rfl rfl ?_
  repeat refine AW.u 11 rfl rfl ?_
  try dsimp only [List.set_cons_zero, List.set_cons_succ, Option.toList_some, Option.toList_none, List.cons_append, List.nil_append]
  rw [hK.1]
  refine AW.loop (pc := 11) (σ := Unit) n (fun i _ => [vR 6 H, vR 6 K, vR 8 1, vI (nI r), vI (nI i)]) (fun i _ m1 => (∀ a, (a < H ∨ H + 17 < a) → m1 a = m a) ∧ m1 H 1 = nI n ∧ ∀ w, w < i → RY m1 (H + 1 + 1 + 2 * w) (turnS σ r (f w))) (fun i _ m1 hi hm1 ih => ?_) 0 () _ (Nat.zero_le _) ⟨fun a ha => mUp_a (by omega), mUp_s _ _ _ _, fun w hw => absurd hw (by omega)⟩
  obtain ⟨hf, hz, hv⟩ := hm1
  repeat refine AW.s rfl ?_
  try dsimp only [List.set_cons_zero, List.set_cons_succ, Option.toList_some, Option.toList_none, List.cons_append, List.nil_append]
  rw [hz]
  refine AW.b rfl (fun hc => ?_) (fun hc => ?_)
  · have hlt : i < n := (nI_ltI (by omega) (by omega)).mp hc
    repeat refine AW.s rfl ?_
    try dsimp only [List.set_cons_zero, List.set_cons_succ, Option.toList_some, Option.toList_none, List.cons_append, List.nil_append]
    refine AW.c rfl (vp_in_nI (by omega) (by decide)) ?_
    try dsimp only [List.set_cons_zero, List.set_cons_succ, Option.toList_some, Option.toList_none, List.cons_append, List.nil_append]
    rw [nI_clamp (by omega)]
    repeat refine AW.s rfl ?_
    try dsimp only [List.set_cons_zero, List.set_cons_succ, Option.toList_some, Option.toList_none, List.cons_append, List.nil_append]
    refine AW.c rfl (vp_in_nI (by omega) (by decide)) ?_
    try dsimp only [List.set_cons_zero, List.set_cons_succ, Option.toList_some, Option.toList_none, List.cons_append, List.nil_append]
    rw [nI_clamp (by omega)]
    refine AW.V k_5_35 ((c_becomeY (by omega) ((hK.2 i hlt).fr (hf _ (by omega)) (hf _ (by omega))) (hfw i hlt) (by omega))) rfl rfl rfl rfl rfl rfl (fun r1 m1 hq => ?_)
    rename_i m2
    obtain ⟨rfl, p1, p2⟩ := hq
    repeat refine AW.s rfl ?_
    try dsimp only [List.set_cons_zero, List.set_cons_succ, Option.toList_some, Option.toList_none, List.cons_append, List.nil_append]
    refine AW.c rfl (vp_in_nI (by omega) (by decide)) ?_
    try dsimp only [List.set_cons_zero, List.set_cons_succ, Option.toList_some, Option.toList_none, List.cons_append, List.nil_append]
    rw [nI_clamp (by omega)]
    repeat refine AW.s rfl ?_
    try dsimp only [List.set_cons_zero, List.set_cons_succ, Option.toList_some, Option.toList_none, List.cons_append, List.nil_append]
    refine AW.V k_5_39 ((c_turn (by omega) (hs.fr hσ.2.1 (fun a h1 h2 => by rw [p2 a (by omega) (by omega)]; exact hf a (by omega))) hσ hr (by omega) p1 (hfw i hlt))) rfl rfl rfl rfl rfl rfl (fun r1 m1 hq => ?_)
    rename_i m3
    obtain ⟨rfl, p3, p4⟩ := hq
    repeat refine AW.u 11 rfl rfl ?_
    try dsimp only [List.set_cons_zero, List.set_cons_succ, Option.toList_some, Option.toList_none, List.cons_append, List.nil_append]
    rw [nI_1]
    refine ih () _ hlt ⟨fun a ha => by rw [p4 a (by omega) (by omega), p2 a (by omega) (by omega)]; exact hf a ha, by rw [p4 H (by omega) (by omega), p2 H (by omega) (by omega)]; exact hz, fun w hw => ?_⟩
    by_cases e : w = i
    · subst e; exact p3
    · exact (hv w (by omega)).fr (by rw [p4 _ (by omega) (by omega), p2 _ (by omega) (by omega)]) (by rw [p4 _ (by omega) (by omega), p2 _ (by omega) (by omega)])
  · have : i = n := by
      have : ¬ i < n := fun q => hc ((nI_ltI (by omega) (by omega)).mpr q)
      omega
    subst this
    exact AW.rv rfl rfl ⟨rfl, ⟨hz, hv⟩, hf⟩
def alikeP (n : Nat) (f : Nat → Option (List Nat)) (i : Nat) : Prop := i < n ∧ ∃ j, j < n ∧ j ≠ i ∧ likeO (f i) (f j) = true
theorem likeO_symm {a b : Option (List Nat)} (h : likeO a b = true) : likeO b a = true := by
  unfold likeO at h ⊢
  simp only [Bool.and_eq_true, decide_eq_true_eq] at h ⊢
  exact ⟨by rw [← h.2]; exact h.1, h.2.symm⟩
/-- pairs looked at: all of the first i words, and of word i those with words below j -/
def pairP (n : Nat) (f : Nat → Option (List Nat)) (i j b : Nat) : Prop := ∃ p q, p < q ∧ q < n ∧ (p < i ∨ (p = i ∧ q < j)) ∧ likeO (f p) (f q) = true ∧ (b = p ∨ b = q)
theorem c_alike {l : Launch} {X : XT} {d : Nat} {H n : Nat} {m : Mem} {f : Nat → Option (List Nat)} (hd : 2 ≤ d) (hn : n ≤ 8) (hK : RepYs m H n f) (hfw : ∀ w, w < n → WFo (f w)) : Meth l X d M_X5_alike [vR 6 H] m (fun r1 m' => ∃ x, r1 = some (vI x) ∧ isBits x (alikeP n f) ∧ m' = m) := by
  obtain ⟨d, rfl⟩ : ∃ e, d = e + 1 := ⟨d - 1, by omega⟩
  refine E_X5_alike (ls := [vR 6 H, vU, vU, vU]) rfl rfl ?_
  repeat refine AW.u 4 rfl rfl ?_
  try dsimp only [List.set_cons_zero, List.set_cons_succ, Option.toList_some, Option.toList_none, List.cons_append, List.nil_append]
  refine AW.loop (pc := 4) (σ := Int32) n (fun i x => [vR 6 H, vI x, vI (nI i), vU]) (fun i x m1 => m1 = m ∧ isBits x (pairP n f i 0)) (fun i x m1 hi hm1 ih => ?_) 0 0 m (Nat.zero_le _) ⟨rfl, isBits.zero.to (fun b => ⟨fun q => absurd q id, fun ⟨p, q, _, _, h, _⟩ => by omega⟩)⟩
  obtain ⟨rfl, hb⟩ := hm1
  repeat refine AW.s rfl ?_
  try dsimp only [List.set_cons_zero, List.set_cons_succ, Option.toList_some, Option.toList_none, List.cons_append, List.nil_append]
  rw [hK.1]
  refine AW.b rfl (fun hc => ?_) (fun hc => ?_)
  · have hlt : i < n := (nI_ltI (by omega) (by omega)).mp hc
    repeat refine AW.u 16 rfl rfl ?_
    try dsimp only [List.set_cons_zero, List.set_cons_succ, Option.toList_some, Option.toList_none, List.cons_append, List.nil_append]
    rw [nI_1]
    refine AW.loop (pc := 16) (σ := Int32) n (fun j x => [vR 6 H, vI x, vI (nI i), vI (nI j)]) (fun j x m2 => m2 = m1 ∧ i < j ∧ isBits x (pairP n f i j)) (fun j x m2 hj hm2 ih2 => ?_) (i + 1) x m1 (by omega) ⟨rfl, by omega, hb.to (fun b => ⟨fun ⟨p, q, h1, h2, h3, h4⟩ => ⟨p, q, h1, h2, by omega, h4⟩, fun ⟨p, q, h1, h2, h3, h4⟩ => ⟨p, q, h1, h2, by omega, h4⟩⟩)⟩
    obtain ⟨rfl, hij, hb2⟩ := hm2
    repeat refine AW.s rfl ?_
    try dsimp only [List.set_cons_zero, List.set_cons_succ, Option.toList_some, Option.toList_none, List.cons_append, List.nil_append]
    rw [hK.1]
    refine AW.b rfl (fun hc => ?_) (fun hc => ?_)
    · have hlt2 : j < n := (nI_ltI (by omega) (by omega)).mp hc
      repeat refine AW.s rfl ?_
      try dsimp only [List.set_cons_zero, List.set_cons_succ, Option.toList_some, Option.toList_none, List.cons_append, List.nil_append]
      refine AW.c rfl (vp_in_nI (by omega) (by decide)) ?_
      try dsimp only [List.set_cons_zero, List.set_cons_succ, Option.toList_some, Option.toList_none, List.cons_append, List.nil_append]
      rw [nI_clamp (by omega)]
      repeat refine AW.s rfl ?_
      try dsimp only [List.set_cons_zero, List.set_cons_succ, Option.toList_some, Option.toList_none, List.cons_append, List.nil_append]
      refine AW.c rfl (vp_in_nI (by omega) (by decide)) ?_
      try dsimp only [List.set_cons_zero, List.set_cons_succ, Option.toList_some, Option.toList_none, List.cons_append, List.nil_append]
      rw [nI_clamp (by omega)]
      refine AW.V k_5_42 ((c_isLike (by omega) (hK.2 i hlt) (hfw i hlt) (hK.2 j hlt2) (hfw j hlt2))) rfl rfl rfl rfl rfl rfl (fun r1 m1 hq => ?_)
      obtain ⟨rfl, rfl⟩ := hq
      try dsimp only [List.set_cons_zero, List.set_cons_succ, Option.toList_some, Option.toList_none, List.cons_append, List.nil_append]
      refine AW.b rfl (fun hc => ?_) (fun hc => ?_)
      · have hno : likeO (f i) (f j) = false := by
          by_cases q : likeO (f i) (f j) = true
          · rw [q] at hc; exact absurd hc (by decide)
          · simpa using q
        repeat refine AW.u 16 rfl rfl ?_
        try dsimp only [List.set_cons_zero, List.set_cons_succ, Option.toList_some, Option.toList_none, List.cons_append, List.nil_append]
        rw [nI_1]
        refine ih2 _ _ hlt2 ⟨rfl, by omega, hb2.to (fun b => ⟨fun ⟨p, q, h1, h2, h3, h4⟩ => ⟨p, q, h1, h2, by omega, h4⟩, fun ⟨p, q, h1, h2, h3, h4, h5⟩ => ?_⟩)⟩
        by_cases e : p = i ∧ q = j
        · obtain ⟨rfl, rfl⟩ := e; rw [hno] at h4; cases h4
        · exact ⟨p, q, h1, h2, by omega, h4, h5⟩
      · have hyes : likeO (f i) (f j) = true := by
          by_cases q : likeO (f i) (f j) = true
          · exact q
          · rw [if_neg q] at hc; exact absurd rfl hc
        repeat refine AW.u 16 rfl rfl ?_
        try dsimp only [List.set_cons_zero, List.set_cons_succ, Option.toList_some, Option.toList_none, List.cons_append, List.nil_append]
        rw [nI_1]
        · refine ih2 _ _ hlt2 ⟨rfl, by omega, (hb2.or2 (k := i) (j := j) (by omega) (by omega)).to (fun b => ⟨fun q => ?_, fun ⟨p, q, h1, h2, h3, h4, h5⟩ => ?_⟩)⟩
          · rcases q with ⟨p, q, h1, h2, h3, h4⟩ | q
            · exact ⟨p, q, h1, h2, by omega, h4⟩
            · exact ⟨i, j, hij, hlt2, by omega, hyes, q⟩
          · by_cases e : p = i ∧ q = j
            · obtain ⟨rfl, rfl⟩ := e; exact Or.inr h5
            · exact Or.inl ⟨p, q, h1, h2, by omega, h4, h5⟩
    · have : j = n := by
        have : ¬ j < n := fun q => hc ((nI_ltI (by omega) (by omega)).mpr q)
        omega
      subst this
      repeat refine AW.u 4 rfl rfl ?_
      try dsimp only [List.set_cons_zero, List.set_cons_succ, Option.toList_some, Option.toList_none, List.cons_append, List.nil_append]
      refine AW.fg 3 ?_
      try dsimp only [List.set_cons_zero, List.set_cons_succ, Option.toList_some, Option.toList_none, List.cons_append, List.nil_append]
      rw [nI_1]
      refine ih _ _ hlt ⟨rfl, hb2.to (fun b => ⟨fun ⟨p, q, h1, h2, h3, h4⟩ => ⟨p, q, h1, h2, by omega, h4⟩, fun ⟨p, q, h1, h2, h3, h4⟩ => ⟨p, q, h1, h2, by omega, h4⟩⟩)⟩
  · have : i = n := by
      have : ¬ i < n := fun q => hc ((nI_ltI (by omega) (by omega)).mpr q)
      omega
    subst this
    repeat refine AW.s rfl ?_
    try dsimp only [List.set_cons_zero, List.set_cons_succ, Option.toList_some, Option.toList_none, List.cons_append, List.nil_append]
    refine AW.ri rfl rfl rfl ⟨_, rfl, hb.to (fun b => ⟨fun ⟨p, q, h1, h2, h3, h4, h5⟩ => ?_, fun ⟨h1, j, h2, h3, h4⟩ => ?_⟩), rfl⟩
    · rcases h5 with rfl | rfl
      · exact ⟨by omega, q, h2, by omega, h4⟩
      · exact ⟨h2, p, by omega, by omega, likeO_symm h4⟩
    · rcases Nat.lt_or_ge b j with q | q
      · exact ⟨b, j, q, h2, Or.inl h1, h4, Or.inl rfl⟩
      · exact ⟨j, b, by omega, h1, Or.inl h2, likeO_symm h4, Or.inr rfl⟩
