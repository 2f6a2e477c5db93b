theorem c_tooLongs {l : Launch} {X : XT} {d : Nat} {H n : Nat} {m : Mem} {f : Nat → Option (List Nat)} (hd : 1 ≤ d) (hn : n ≤ 8) (hK : RepYs m H n f) (hfw : ∀ w, w < n → WFo (f w)) : Meth l X d M_X5_tooLong [vR 6 H] m (fun r1 m' => ∃ x, r1 = some (vI x) ∧ isBits x (fun i => i < n ∧ f i = none) ∧ m' = m) := by
  obtain ⟨d, rfl⟩ : ∃ e, d = e + 1 := ⟨d - 1, by omega⟩
  refine E_X5_tooLong (ls := [vR 6 H, vU, vU]) rfl rfl ?_
  repeat refine AW.u 4 rfl rfl ?_
  try dsimp only [List.set_cons_zero, List.set_cons_succ, Option.toList_some, Option.toList_none, List.cons_append, List.nil_append]
  refine AW.loop (pc := 4) (σ := Int32) n (fun i x => [vR 6 H, vI x, vI (nI i)]) (fun i x m1 => m1 = m ∧ isBits x (fun b => b < i ∧ f b = none)) (fun i x m1 hi hm1 ih => ?_) 0 0 m (Nat.zero_le _) ⟨rfl, isBits.zero.to (fun b => ⟨fun q => absurd q id, fun q => absurd q.1 (by omega)⟩)⟩
  obtain ⟨rfl, hb⟩ := hm1
  repeat refine AW.s rfl ?_
  try dsimp only [List.set_cons_zero, List.set_cons_succ, Option.toList_some, Option.toList_none, List.cons_append, List.nil_append]
  rw [hK.1]
  refine AW.b rfl (fun hc => ?_) (fun hc => ?_)
  · have hlt : i < n := (nI_ltI (by omega) (by omega)).mp hc
    repeat refine AW.s rfl ?_
    try dsimp only [List.set_cons_zero, List.set_cons_succ, Option.toList_some, Option.toList_none, List.cons_append, List.nil_append]
    refine AW.c rfl (vp_in_nI (by omega) (by decide)) ?_
    try dsimp only [List.set_cons_zero, List.set_cons_succ, Option.toList_some, Option.toList_none, List.cons_append, List.nil_append]
    rw [nI_clamp (by omega)]
    refine AW.V k_5_46 (c_isTooLong) rfl rfl rfl rfl rfl rfl (fun r1 m1 hq => ?_)
    obtain ⟨rfl, rfl⟩ := hq
    try dsimp only [List.set_cons_zero, List.set_cons_succ, Option.toList_some, Option.toList_none, List.cons_append, List.nil_append]
    have hy := hK.2 i hlt
    cases hfi : f i with
    | none =>
      rw [hfi] at hy
      rw [if_pos (show m1 (H + 1 + 1 + 2 * i) 1 = -1 from hy)]
      refine AW.b rfl (fun hc => ?_) (fun hc => ?_)
      · exact absurd hc (by decide)
      · repeat refine AW.u 4 rfl rfl ?_
        try dsimp only [List.set_cons_zero, List.set_cons_succ, Option.toList_some, Option.toList_none, List.cons_append, List.nil_append]
        rw [nI_1]
        refine ih _ _ hlt ⟨rfl, (hb.or (k := i) (by omega)).to (fun b => ⟨fun q => ?_, fun q => ?_⟩)⟩
        · rcases q with q | rfl
          · exact ⟨by omega, q.2⟩
          · exact ⟨by omega, hfi⟩
        · by_cases e : b = i
          · exact Or.inr e
          · exact Or.inl ⟨by omega, q.2⟩
    | some xs =>
      rw [hfi] at hy
      obtain ⟨a1, a2, a3⟩ := hfw i hlt xs hfi
      rw [if_neg (show ¬ m1 (H + 1 + 1 + 2 * i) 1 = -1 by rw [hy.1]; exact nI_m1 (by omega))]
      refine AW.b rfl (fun hc => ?_) (fun hc => ?_)
      · repeat refine AW.u 4 rfl rfl ?_
        try dsimp only [List.set_cons_zero, List.set_cons_succ, Option.toList_some, Option.toList_none, List.cons_append, List.nil_append]
        rw [nI_1]
        refine ih _ _ hlt ⟨rfl, hb.to (fun b => ⟨fun q => ⟨by omega, q.2⟩, fun q => ?_⟩)⟩
        by_cases e : b = i
        · subst e; rw [hfi] at q; cases q.2
        · exact ⟨by omega, q.2⟩
      · exact absurd rfl hc
  · have : i = n := by
      have : ¬ i < n := fun q => hc ((nI_ltI (by omega) (by omega)).mpr q)
      omega
    subst this
    repeat refine AW.s rfl ?_
    try dsimp only [List.set_cons_zero, List.set_cons_succ, Option.toList_some, Option.toList_none, List.cons_append, List.nil_append]
    exact AW.ri rfl rfl rfl ⟨_, rfl, hb, rfl⟩
theorem c_hasAnother {l : Launch} {X : XT} {d : Nat} {H n g w : Nat} {m : Mem} {f : Nat → Option (List Nat)} {o : Option (List Nat)} (hd : 2 ≤ d) (hn : n ≤ 8) (hw : w < n) (hK : RepYs m H n f) (hfw : ∀ w, w < n → WFo (f w)) (hy : RY m g o) (ho : WFo o) : Meth l X d M_X5_hasAnother [vR 6 H, vR 5 g, vI (nI w)] m (fun r1 m' => ∃ x, r1 = some (vI (if x then 1 else 0)) ∧ (x = true ↔ ∃ j, j < n ∧ j ≠ w ∧ likeO o (f j) = true) ∧ m' = m) := by
  obtain ⟨d, rfl⟩ : ∃ e, d = e + 1 := ⟨d - 1, by omega⟩
  refine E_X5_hasAnother (ls := [vR 6 H, vR 5 g, vI (nI w), vU]) rfl rfl ?_
  repeat refine AW.u 2 rfl rfl ?_
  try dsimp only [List.set_cons_zero, List.set_cons_succ, Option.toList_some, Option.toList_none, List.cons_append, List.nil_append]
  refine AW.loop (pc := 2) (σ := Unit) n (fun i x => [vR 6 H, vR 5 g, vI (nI w), vI (nI i)]) (fun i x m1 => m1 = m ∧ ∀ j, j < i → j ≠ w → likeO o (f j) = false) (fun i x m1 hi hm1 ih => ?_) 0 () m (Nat.zero_le _) ⟨rfl, fun j hj => absurd hj (by omega)⟩
  obtain ⟨rfl, hb⟩ := hm1
  repeat refine AW.s rfl ?_
  try dsimp only [List.set_cons_zero, List.set_cons_succ, Option.toList_some, Option.toList_none, List.cons_append, List.nil_append]
  rw [hK.1]
  refine AW.b rfl (fun hc => ?_) (fun hc => ?_)
  · have hlt : i < n := (nI_ltI (by omega) (by omega)).mp hc
    repeat refine AW.s rfl ?_
    try dsimp only [List.set_cons_zero, List.set_cons_succ, Option.toList_some, Option.toList_none, List.cons_append, List.nil_append]
    refine AW.b rfl (fun hc => ?_) (fun hc => ?_)
    · have e : i = w := (nI_eq (by omega) (by omega)).mp hc
      repeat refine AW.u 2 rfl rfl ?_
      try dsimp only [List.set_cons_zero, List.set_cons_succ, Option.toList_some, Option.toList_none, List.cons_append, List.nil_append]
      rw [nI_1]
      refine ih () _ hlt ⟨rfl, fun j hj hjw => hb j (by have : j ≠ i := fun q => hjw (by omega); omega) hjw⟩
    · have e : ¬ i = w := fun q => hc (by rw [q])
      repeat refine AW.s rfl ?_
      try dsimp only [List.set_cons_zero, List.set_cons_succ, Option.toList_some, Option.toList_none, List.cons_append, List.nil_append]
      refine AW.c rfl (vp_in_nI (by omega) (by decide)) ?_
      try dsimp only [List.set_cons_zero, List.set_cons_succ, Option.toList_some, Option.toList_none, List.cons_append, List.nil_append]
      rw [nI_clamp (by omega)]
      refine AW.V k_5_42 ((c_isLike (by omega) hy ho (hK.2 i hlt) (hfw i hlt))) rfl rfl rfl rfl rfl rfl (fun r1 m1 hq => ?_)
      obtain ⟨rfl, rfl⟩ := hq
      try dsimp only [List.set_cons_zero, List.set_cons_succ, Option.toList_some, Option.toList_none, List.cons_append, List.nil_append]
      refine AW.b rfl (fun hc => ?_) (fun hc => ?_)
      · have hno : likeO o (f i) = false := by
          by_cases q : likeO o (f i) = true
          · rw [q] at hc; exact absurd hc (by decide)
          · simpa using q
        repeat refine AW.u 2 rfl rfl ?_
        try dsimp only [List.set_cons_zero, List.set_cons_succ, Option.toList_some, Option.toList_none, List.cons_append, List.nil_append]
        rw [nI_1]
        refine ih () _ hlt ⟨rfl, fun j hj hjw => ?_⟩
        by_cases e2 : j = i
        · subst e2; exact hno
        · exact hb j (by omega) hjw
      · have hyes : likeO o (f i) = true := by
          by_cases q : likeO o (f i) = true
          · exact q
          · rw [if_neg q] at hc; exact absurd rfl hc
        repeat refine AW.s rfl ?_
        try dsimp only [List.set_cons_zero, List.set_cons_succ, Option.toList_some, Option.toList_none, List.cons_append, List.nil_append]
        exact AW.ri rfl rfl rfl ⟨true, rfl, ⟨fun _ => ⟨i, hlt, e, hyes⟩, fun _ => rfl⟩, rfl⟩
  · have : i = n := by
      have : ¬ i < n := fun q => hc ((nI_ltI (by omega) (by omega)).mpr q)
      omega
    subst this
    repeat refine AW.s rfl ?_
    try dsimp only [List.set_cons_zero, List.set_cons_succ, Option.toList_some, Option.toList_none, List.cons_append, List.nil_append]
    refine AW.ri rfl rfl rfl ⟨false, rfl, ⟨fun q => (by cases q), fun ⟨j, h1, h2, h3⟩ => ?_⟩, rfl⟩
    rw [hb j h1 h2] at h3
    cases h3
/-- two of the same length, neither too long: how many differ -/
def apD (f : Nat → Option (List Nat)) (p q d : Nat) : Prop := ∃ xs ys, f p = some xs ∧ f q = some ys ∧ xs.length = ys.length ∧ d = diffN xs ys
/-- the least of what those pairs say that S takes, or none -/
def isLeast (S : Nat → Prop) (x : Int32) : Prop := (x = -1 ∧ ∀ d, ¬ S d) ∨ ∃ d, d < 2 ^ 31 ∧ x = nI d ∧ S d ∧ ∀ e, S e → d ≤ e
theorem isLeast.uniq {S S' : Nat → Prop} {x y : Int32} (h1 : isLeast S x) (h2 : isLeast S' y) (h : ∀ d, S d ↔ S' d) : x = y := by
  rcases h1 with ⟨rfl, n1⟩ | ⟨a, -, rfl, a1, a2⟩
  · rcases h2 with ⟨rfl, -⟩ | ⟨b, -, rfl, b1, -⟩
    · rfl
    · exact absurd ((h b).mpr b1) (n1 b)
  · rcases h2 with ⟨rfl, n2⟩ | ⟨b, -, rfl, b1, b2⟩
    · exact absurd ((h a).mp a1) (n2 a)
    · have := a2 b ((h b).mpr b1)
      have := b2 a ((h a).mp a1)
      rw [show a = b by omega]
theorem isLeast.to {S S' : Nat → Prop} {x : Int32} (h1 : isLeast S x) (h : ∀ d, S d ↔ S' d) : isLeast S' x := by
  rcases h1 with ⟨rfl, n1⟩ | ⟨a, a0, rfl, a1, a2⟩
  · exact Or.inl ⟨rfl, fun d q => n1 d ((h d).mpr q)⟩
  · exact Or.inr ⟨a, a0, rfl, (h a).mp a1, fun e q => a2 e ((h e).mpr q)⟩
theorem isLeast.add {S : Nat → Prop} {x : Int32} {d : Nat} (h1 : isLeast S x) (hd : d < 2 ^ 31) : isLeast (fun e => S e ∨ e = d) (if x = -1 then nI d else if nI d < x then nI d else x) := by
  rcases h1 with ⟨rfl, n1⟩ | ⟨a, a0, rfl, a1, a2⟩
  · rw [if_pos rfl]
    exact Or.inr ⟨d, hd, rfl, Or.inr rfl, fun e q => by rcases q with q | q; exact absurd q (n1 e); omega⟩
  · rw [if_neg (nI_m1 a0)]
    by_cases q : d < a
    · rw [if_pos ((nI_ltI hd a0).mpr q)]
      exact Or.inr ⟨d, hd, rfl, Or.inr rfl, fun e z => by rcases z with z | z; have := a2 e z; omega; omega⟩
    · rw [if_neg (fun z => q ((nI_ltI hd a0).mp z))]
      exact Or.inr ⟨a, a0, rfl, Or.inl a1, fun e z => by rcases z with z | z; exact a2 e z; omega⟩
def apS (n : Nat) (f : Nat → Option (List Nat)) (i j d : Nat) : Prop := ∃ p q, p < q ∧ q < n ∧ (p < i ∨ (p = i ∧ q < j)) ∧ apD f p q d
theorem diffN_le (xs ys : List Nat) : diffN xs ys ≤ xs.length := by
  unfold diffN
  refine Nat.le_trans List.countP_le_length ?_
  rw [List.length_zip]
  omega
theorem c_apart {l : Launch} {X : XT} {d : Nat} {H n : Nat} {m : Mem} {f : Nat → Option (List Nat)} (hd : 2 ≤ d) (hn : n ≤ 8) (hK : RepYs m H n f) (hfw : ∀ w, w < n → WFo (f w)) : Meth l X d M_X5_apart [vR 6 H] m (fun r1 m' => ∃ x, r1 = some (vI x) ∧ isLeast (fun d => ∃ p q, p < q ∧ q < n ∧ apD f p q d) x ∧ m' = m) := by
  obtain ⟨d, rfl⟩ : ∃ e, d = e + 1 := ⟨d - 1, by omega⟩
  refine E_X5_apart (ls := [vR 6 H, vU, vU, vU, vU]) rfl rfl ?_
  repeat refine AW.u 4 rfl rfl ?_
  try dsimp only [List.set_cons_zero, List.set_cons_succ, Option.toList_some, Option.toList_none, List.cons_append, List.nil_append]
  refine AW.loop (pc := 4) (σ := Int32) n (fun i x => [vR 6 H, vI x, vI (nI i), vU, vU]) (fun i x m1 => m1 = m ∧ isLeast (apS n f i 0) x) (fun i x m1 hi hm1 ih => ?_) 0 (-1) m (Nat.zero_le _) ⟨rfl, Or.inl ⟨rfl, fun d ⟨p, q, _, _, h, _⟩ => by omega⟩⟩
  obtain ⟨rfl, hb⟩ := hm1
  repeat refine AW.s rfl ?_
  try dsimp only [List.set_cons_zero, List.set_cons_succ, Option.toList_some, Option.toList_none, List.cons_append, List.nil_append]
  rw [hK.1]
  refine AW.b rfl (fun hc => ?_) (fun hc => ?_)
  · have hlt : i < n := (nI_ltI (by omega) (by omega)).mp hc
    repeat refine AW.u 16 rfl rfl ?_
    try dsimp only [List.set_cons_zero, List.set_cons_succ, Option.toList_some, Option.toList_none, List.cons_append, List.nil_append]
    rw [nI_1]
    refine AW.loop (pc := 16) (σ := Int32) n (fun j x => [vR 6 H, vI x, vI (nI i), vI (nI j), vU]) (fun j x m2 => m2 = m1 ∧ i < j ∧ isLeast (apS n f i j) x) (fun j x m2 hj hm2 ih2 => ?_) (i + 1) x m1 (by omega) ⟨rfl, by omega, hb.to (fun b => ⟨fun ⟨p, q, h1, h2, h3, h4⟩ => ⟨p, q, h1, h2, by omega, h4⟩, fun ⟨p, q, h1, h2, h3, h4⟩ => ⟨p, q, h1, h2, by omega, h4⟩⟩)⟩
    obtain ⟨rfl, hij, hb2⟩ := hm2
    repeat refine AW.s rfl ?_
    try dsimp only [List.set_cons_zero, List.set_cons_succ, Option.toList_some, Option.toList_none, List.cons_append, List.nil_append]
    rw [hK.1]
    refine AW.b rfl (fun hc => ?_) (fun hc => ?_)
    · have hlt2 : j < n := (nI_ltI (by omega) (by omega)).mp hc
      have hskip : (∀ d, ¬ apD f i j d) → AW (GM l X (d + 1) M_X5_apart fun r1 m' => ∃ x, r1 = some (vI x) ∧ isLeast (fun d => ∃ p q, p < q ∧ q < n ∧ apD f p q d) x ∧ m' = m2) 91 [vR 6 H, vI x, vI (nI i), vI (nI j), vU] [] m2 := by
        intro hno
        repeat refine AW.u 16 rfl rfl ?_
        try dsimp only [List.set_cons_zero, List.set_cons_succ, Option.toList_some, Option.toList_none, List.cons_append, List.nil_append]
        rw [nI_1]
        refine ih2 _ _ hlt2 ⟨rfl, by omega, hb2.to (fun b => ⟨fun ⟨p, q, h1, h2, h3, h4⟩ => ⟨p, q, h1, h2, by omega, h4⟩, fun ⟨p, q, h1, h2, h3, h4⟩ => ?_⟩)⟩
        by_cases e : p = i ∧ q = j
        · obtain ⟨rfl, rfl⟩ := e; exact absurd h4 (hno b)
        · exact ⟨p, q, h1, h2, by omega, h4⟩
      have hyi := hK.2 i hlt
      have hyj := hK.2 j hlt2
      repeat refine AW.s rfl ?_
      try dsimp only [List.set_cons_zero, List.set_cons_succ, Option.toList_some, Option.toList_none, List.cons_append, List.nil_append]
      refine AW.c rfl (vp_in_nI (by omega) (by decide)) ?_
      try dsimp only [List.set_cons_zero, List.set_cons_succ, Option.toList_some, Option.toList_none, List.cons_append, List.nil_append]
      rw [nI_clamp (by omega)]
      refine AW.V k_5_46 (c_isTooLong) rfl rfl rfl rfl rfl rfl (fun r1 m1 hq => ?_)
      obtain ⟨rfl, rfl⟩ := hq
      try dsimp only [List.set_cons_zero, List.set_cons_succ, Option.toList_some, Option.toList_none, List.cons_append, List.nil_append]
      cases hfi : f i with
      | none =>
        rw [hfi] at hyi
        rw [if_pos (show m1 (H + 1 + 1 + 2 * i) 1 = -1 from hyi)]
        refine AW.b rfl (fun hc => ?_) (fun hc => ?_)
        · exact absurd hc (by decide)
        · exact hskip (fun d ⟨xs, ys, h1, _⟩ => by rw [hfi] at h1; cases h1)
      | some xs =>
        rw [hfi] at hyi
        have wi := hfw i hlt
        rw [hfi] at wi
        obtain ⟨a1, a2, a3⟩ := wi xs rfl
        rw [if_neg (show ¬ m1 (H + 1 + 1 + 2 * i) 1 = -1 by rw [hyi.1]; exact nI_m1 (by omega))]
        refine AW.b rfl (fun hc => ?_) (fun hc => ?_)
        · repeat refine AW.s rfl ?_
          try dsimp only [List.set_cons_zero, List.set_cons_succ, Option.toList_some, Option.toList_none, List.cons_append, List.nil_append]
          refine AW.c rfl (vp_in_nI (by omega) (by decide)) ?_
          try dsimp only [List.set_cons_zero, List.set_cons_succ, Option.toList_some, Option.toList_none, List.cons_append, List.nil_append]
          rw [nI_clamp (by omega)]
          repeat refine AW.s rfl ?_
          try dsimp only [List.set_cons_zero, List.set_cons_succ, Option.toList_some, Option.toList_none, List.cons_append, List.nil_append]
          refine AW.c rfl (vp_in_nI (by omega) (by decide)) ?_
          try dsimp only [List.set_cons_zero, List.set_cons_succ, Option.toList_some, Option.toList_none, List.cons_append, List.nil_append]
          rw [nI_clamp (by omega)]
          repeat refine AW.s rfl ?_
          try dsimp only [List.set_cons_zero, List.set_cons_succ, Option.toList_some, Option.toList_none, List.cons_append, List.nil_append]
          rw [hyi.1]
          cases hfj : f j with
          | none =>
            rw [hfj] at hyj
            rw [show m1 (H + 1 + 1 + 2 * j) 1 = -1 from hyj]
            refine AW.b rfl (fun hc => ?_) (fun hc => ?_)
            · exact absurd hc (nI_m1 (by omega))
            · exact hskip (fun d ⟨xs, ys, _, h1, _⟩ => by rw [hfj] at h1; cases h1)
          | some ys =>
            rw [hfj] at hyj
            have wj := hfw j hlt2
            rw [hfj] at wj
            obtain ⟨b1, b2, b3⟩ := wj ys rfl
            rw [hyj.1]
            refine AW.b rfl (fun hc => ?_) (fun hc => ?_)
            · have hlen : xs.length = ys.length := (nI_eq (by omega) (by omega)).mp hc
              repeat refine AW.s rfl ?_
              try dsimp only [List.set_cons_zero, List.set_cons_succ, Option.toList_some, Option.toList_none, List.cons_append, List.nil_append]
              refine AW.c rfl (vp_in_nI (by omega) (by decide)) ?_
              try dsimp only [List.set_cons_zero, List.set_cons_succ, Option.toList_some, Option.toList_none, List.cons_append, List.nil_append]
              rw [nI_clamp (by omega)]
              repeat refine AW.s rfl ?_
              try dsimp only [List.set_cons_zero, List.set_cons_succ, Option.toList_some, Option.toList_none, List.cons_append, List.nil_append]
              refine AW.c rfl (vp_in_nI (by omega) (by decide)) ?_
              try dsimp only [List.set_cons_zero, List.set_cons_succ, Option.toList_some, Option.toList_none, List.cons_append, List.nil_append]
              rw [nI_clamp (by omega)]
              refine AW.V k_5_51 ((c_differences hyi wi hyj wj hlen)) rfl rfl rfl rfl rfl rfl (fun r1 m1 hq => ?_)
              obtain ⟨rfl, rfl⟩ := hq
              have hdl := diffN_le xs ys
              have hadd := hb2.add (d := diffN xs ys) (by omega)
              have hfin : isLeast (apS n f i (j + 1)) (if x = -1 then nI (diffN xs ys) else if nI (diffN xs ys) < x then nI (diffN xs ys) else x) := hadd.to (fun b => ⟨fun q => ?_, fun ⟨p, q, h1, h2, h3, h4⟩ => ?_⟩)
              · repeat refine AW.s rfl ?_
                try dsimp only [List.set_cons_zero, List.set_cons_succ, Option.toList_some, Option.toList_none, List.cons_append, List.nil_append]
                refine AW.b rfl (fun hc => ?_) (fun hc => ?_)
                · rw [if_pos hc] at hfin
                  repeat refine AW.u 16 rfl rfl ?_
                  try dsimp only [List.set_cons_zero, List.set_cons_succ, Option.toList_some, Option.toList_none, List.cons_append, List.nil_append]
                  refine AW.fg 4 ?_
                  try dsimp only [List.set_cons_zero, List.set_cons_succ, Option.toList_some, Option.toList_none, List.cons_append, List.nil_append]
                  rw [nI_1]
                  exact ih2 _ _ hlt2 ⟨rfl, by omega, hfin⟩
                · rw [if_neg hc] at hfin
                  repeat refine AW.s rfl ?_
                  try dsimp only [List.set_cons_zero, List.set_cons_succ, Option.toList_some, Option.toList_none, List.cons_append, List.nil_append]
                  refine AW.mmin (G := GM l X (d + 1) M_X5_apart _) rfl k_5_55 rR1 (by decide) ?_
                  repeat refine AW.u 16 rfl rfl ?_
                  try dsimp only [List.set_cons_zero, List.set_cons_succ, Option.toList_some, Option.toList_none, List.cons_append, List.nil_append]
                  refine AW.fg 4 ?_
                  try dsimp only [List.set_cons_zero, List.set_cons_succ, Option.toList_some, Option.toList_none, List.cons_append, List.nil_append]
                  rw [nI_1]
                  exact ih2 _ _ hlt2 ⟨rfl, by omega, hfin⟩
              · rcases q with ⟨p, q, h1, h2, h3, h4⟩ | rfl
                · exact ⟨p, q, h1, h2, by omega, h4⟩
                · exact ⟨i, j, hij, hlt2, by omega, xs, ys, hfi, hfj, hlen, rfl⟩
              · by_cases e : p = i ∧ q = j
                · obtain ⟨rfl, rfl⟩ := e
                  obtain ⟨xs', ys', g1, g2, -, rfl⟩ := h4
                  rw [hfi] at g1
                  rw [hfj] at g2
                  cases g1
                  cases g2
                  exact Or.inr rfl
                · exact Or.inl ⟨p, q, h1, h2, by omega, h4⟩
            · have hne := hc
              refine hskip (fun d ⟨xs', ys', g1, g2, g3, _⟩ => ?_)
              rw [hfi] at g1
              rw [hfj] at g2
              cases g1
              cases g2
              exact hne (by rw [g3])
        · exact absurd rfl hc
    · have : j = n := by
        have : ¬ j < n := fun q => hc ((nI_ltI (by omega) (by omega)).mpr q)
        omega
      subst this
      repeat refine AW.u 4 rfl rfl ?_
      try dsimp only [List.set_cons_zero, List.set_cons_succ, Option.toList_some, Option.toList_none, List.cons_append, List.nil_append]
      refine AW.fg 3 ?_
      try dsimp only [List.set_cons_zero, List.set_cons_succ, Option.toList_some, Option.toList_none, List.cons_append, List.nil_append]
      rw [nI_1]
      refine ih _ _ hlt ⟨rfl, hb2.to (fun b => ⟨fun ⟨p, q, h1, h2, h3, h4⟩ => ⟨p, q, h1, h2, by omega, h4⟩, fun ⟨p, q, h1, h2, h3, h4⟩ => ⟨p, q, h1, h2, by omega, h4⟩⟩)⟩
  · have : i = n := by
      have : ¬ i < n := fun q => hc ((nI_ltI (by omega) (by omega)).mpr q)
      omega
    subst this
    repeat refine AW.s rfl ?_
    try dsimp only [List.set_cons_zero, List.set_cons_succ, Option.toList_some, Option.toList_none, List.cons_append, List.nil_append]
    refine AW.ri rfl rfl rfl ⟨_, rfl, hb.to (fun b => ⟨fun ⟨p, q, h1, h2, h3, h4⟩ => ⟨p, q, h1, h2, h4⟩, fun ⟨p, q, h1, h2, h4⟩ => ⟨p, q, h1, h2, Or.inl (by omega), h4⟩⟩), rfl⟩
