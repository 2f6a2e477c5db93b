theorem c_becomeY {l : Launch} {X : XT} {d : Nat} {h g : Nat} {m : Mem} {o : Option (List Nat)} (hd : 1 ≤ d) (hy : RY m g o) (ho : WFo o) (hgh : g + 1 < h ∨ h + 1 < g) : Meth l X d M_X4_become [vR 5 h, vR 5 g] m (fun r m' => r = none ∧ RY m' h o ∧ ∀ a, a ≠ h → a ≠ h + 1 → m' a = m a) := by
  obtain ⟨d, rfl⟩ : ∃ e, d = e + 1 := ⟨d - 1, by omega⟩
  refine E_X4_become (ls := [vR 5 h, vR 5 g]) rfl rfl ?_
  repeat refine AW.s rfl ?_
  try dsimp only [List.set_cons_zero, List.set_cons_succ, Option.toList_some, Option.toList_none, List.cons_append, List.nil_append]
  rw [mUp_s]
  cases o with
  | none =>
    have hy : m g 1 = -1 := hy
    rw [hy]
    refine AW.b rfl (fun hc => ?_) (fun hc => ?_)
    · exact absurd hc (by decide)
    · exact AW.rv rfl rfl ⟨rfl, mUp_s _ _ _ _, fun a h1 _ => mUp_a h1⟩
  | some xs =>
    obtain ⟨g1, g2, g3⟩ := ho xs rfl
    rw [hy.1]
    refine AW.b rfl (fun hc => ?_) (fun hc => ?_)
    · repeat refine AW.s rfl ?_
      try dsimp only [List.set_cons_zero, List.set_cons_succ, Option.toList_some, Option.toList_none, List.cons_append, List.nil_append]
      rw [mUp_s]
      refine AW.cpy k_4_27 rfl rfl rfl rfl (by decide) (by decide) (nI_pos (by omega)) ?_ ?_ ?_
      · rw [nI_clamp (by omega)]; show 0 + xs.length ≤ 40; omega
      · rw [nI_clamp (by omega)]; show 0 + xs.length ≤ 40; omega
      rw [nI_clamp (by omega)]
      try dsimp only [List.set_cons_zero, List.set_cons_succ, Option.toList_some, Option.toList_none, List.cons_append, List.nil_append]
      refine AW.rv rfl rfl ⟨rfl, ⟨?_, fun k x hk => ?_⟩, fun a h1 h2 => ?_⟩
      · rw [mSr_n (by omega), mUp_s]
      · have hk1 := (List.getElem?_eq_some_iff.mp hk).1
        rw [mSr_s, show (0 : Int32).toNatClampNeg = 0 from rfl, pk_cpy_in (Nat.zero_le _) (by show k < 0 + xs.length; omega), mUp_a (by omega)]
        have := hy.2 k x hk
        rw [← this]
        congr 1
        show 0 + (k - 0) = k; omega
      · rw [mSr_n h2, mUp_a h1]
    · exact absurd (nI_lt (a := 0) (by omega) (by omega)) hc
def ansO (o : Option (List Nat)) (k : Int32) : Int32 := match o with
  | none => -3
  | some xs => if k = -1 then nI xs.length else if k < 0 then -1 else if k < nI xs.length then nI (xs.getD k.toNatClampNeg 0) else -1
theorem ansO_some {xs : List Nat} {k : Int32} : ansO (some xs) k = if k = -1 then nI xs.length else if k < 0 then -1 else if k < nI xs.length then nI (xs.getD k.toNatClampNeg 0) else -1 := rfl
theorem c_answer {l : Launch} {X : XT} {d : Nat} {h : Nat} {k : Int32} {m : Mem} {o : Option (List Nat)} (hd : 1 ≤ d) (hy : RY m h o) (ho : WFo o) : Meth l X d M_X4_answer [vR 5 h, vI k] m (fun r m' => r = some (vI (ansO o k)) ∧ m' = m) := by
  obtain ⟨d, rfl⟩ : ∃ e, d = e + 1 := ⟨d - 1, by omega⟩
  refine E_X4_answer (ls := [vR 5 h, vI k]) rfl rfl ?_
  repeat refine AW.s rfl ?_
  try dsimp only [List.set_cons_zero, List.set_cons_succ, Option.toList_some, Option.toList_none, List.cons_append, List.nil_append]
  refine AW.V k_4_50 (c_isTooLong) rfl rfl rfl rfl rfl rfl (fun r1 m1 hq => ?_)
  obtain ⟨rfl, rfl⟩ := hq
  try dsimp only [List.set_cons_zero, List.set_cons_succ, Option.toList_some, Option.toList_none, List.cons_append, List.nil_append]
  cases o with
  | none =>
    have hy : m1 h 1 = -1 := hy
    rw [if_pos hy]
    refine AW.b rfl (fun hc => ?_) (fun hc => ?_)
    · exact absurd hc (by decide)
    · repeat refine AW.s rfl ?_
      try dsimp only [List.set_cons_zero, List.set_cons_succ, Option.toList_some, Option.toList_none, List.cons_append, List.nil_append]
      exact AW.ri rfl rfl rfl ⟨rfl, rfl⟩
  | some xs =>
    obtain ⟨g1, g2, g3⟩ := ho xs rfl
    rw [if_neg (by rw [hy.1]; exact nI_m1 (by omega))]
    refine AW.b rfl (fun hc => ?_) (fun hc => ?_)
    · repeat refine AW.s rfl ?_
      try dsimp only [List.set_cons_zero, List.set_cons_succ, Option.toList_some, Option.toList_none, List.cons_append, List.nil_append]
      refine AW.b rfl (fun hc => ?_) (fun hc => ?_)
      · repeat refine AW.s rfl ?_
        try dsimp only [List.set_cons_zero, List.set_cons_succ, Option.toList_some, Option.toList_none, List.cons_append, List.nil_append]
        rw [hy.1]
        refine AW.ri rfl rfl rfl ⟨?_, rfl⟩
        rw [ansO_some, if_pos hc]
      · have hk1 := hc
        repeat refine AW.s rfl ?_
        try dsimp only [List.set_cons_zero, List.set_cons_succ, Option.toList_some, Option.toList_none, List.cons_append, List.nil_append]
        refine AW.b rfl (fun hc => ?_) (fun hc => ?_)
        · repeat refine AW.s rfl ?_
          try dsimp only [List.set_cons_zero, List.set_cons_succ, Option.toList_some, Option.toList_none, List.cons_append, List.nil_append]
          refine AW.ri rfl rfl rfl ⟨?_, rfl⟩
          rw [ansO_some, if_neg hk1, if_pos hc]
        · have hk2 := hc
          repeat refine AW.s rfl ?_
          try dsimp only [List.set_cons_zero, List.set_cons_succ, Option.toList_some, Option.toList_none, List.cons_append, List.nil_append]
          rw [hy.1]
          refine AW.b rfl (fun hc => ?_) (fun hc => ?_)
          · obtain ⟨j, hj, rfl⟩ := nI_of hk2
            have hlt : j < xs.length := (nI_ltI hj (by omega)).mp hc
            obtain ⟨x, hx⟩ : ∃ x, xs[j]? = some x := ⟨_, List.getElem?_eq_getElem hlt⟩
            repeat refine AW.s rfl ?_
            try dsimp only [List.set_cons_zero, List.set_cons_succ, Option.toList_some, Option.toList_none, List.cons_append, List.nil_append]
            refine AW.c rfl (vp_in_nI (by omega) (by decide)) ?_
            try dsimp only [List.set_cons_zero, List.set_cons_succ, Option.toList_some, Option.toList_none, List.cons_append, List.nil_append]
            rw [nI_clamp hj, hy.2 j x hx]
            repeat refine AW.s rfl ?_
            try dsimp only [List.set_cons_zero, List.set_cons_succ, Option.toList_some, Option.toList_none, List.cons_append, List.nil_append]
            refine AW.ri rfl rfl rfl ⟨?_, rfl⟩
            rw [ansO_some, if_neg hk1, if_neg hk2, if_pos hc, nI_clamp hj, List.getD_eq_getElem?_getD, hx]
            rfl
          · repeat refine AW.s rfl ?_
            try dsimp only [List.set_cons_zero, List.set_cons_succ, Option.toList_some, Option.toList_none, List.cons_append, List.nil_append]
            refine AW.ri rfl rfl rfl ⟨?_, rfl⟩
            rw [ansO_some, if_neg hk1, if_neg hk2, if_neg hc]
    · exact absurd rfl hc
def likeO (o1 o2 : Option (List Nat)) : Bool := o1.isSome && decide (o1 = o2)
theorem take_same {xs ys : List Nat} {i x y : Nat} (hx : xs[i]? = some x) (hy : ys[i]? = some y) (e : x = y) (h : xs.take i = ys.take i) : xs.take (i + 1) = ys.take (i + 1) := by
  rw [List.take_add_one, List.take_add_one, hx, hy, h, e]
theorem c_isLike {l : Launch} {X : XT} {d : Nat} {h g : Nat} {m : Mem} {o1 o2 : Option (List Nat)} (hd : 1 ≤ d) (hy1 : RY m h o1) (ho1 : WFo o1) (hy2 : RY m g o2) (ho2 : WFo o2) : Meth l X d M_X4_isLike [vR 5 h, vR 5 g] m (fun r m' => r = some (vI (if likeO o1 o2 then 1 else 0)) ∧ m' = m) := by
  obtain ⟨d, rfl⟩ : ∃ e, d = e + 1 := ⟨d - 1, by omega⟩
  refine E_X4_isLike (ls := [vR 5 h, vR 5 g, vU]) rfl rfl ?_
  repeat refine AW.s rfl ?_
  try dsimp only [List.set_cons_zero, List.set_cons_succ, Option.toList_some, Option.toList_none, List.cons_append, List.nil_append]
  refine AW.V k_4_50 (c_isTooLong) rfl rfl rfl rfl rfl rfl (fun r1 m1 hq => ?_)
  obtain ⟨rfl, rfl⟩ := hq
  try dsimp only [List.set_cons_zero, List.set_cons_succ, Option.toList_some, Option.toList_none, List.cons_append, List.nil_append]
  cases o1 with
  | none =>
    have hy1 : m1 h 1 = -1 := hy1
    rw [if_pos hy1]
    refine AW.b rfl (fun hc => ?_) (fun hc => ?_)
    · exact absurd hc (by decide)
    · repeat refine AW.s rfl ?_
      try dsimp only [List.set_cons_zero, List.set_cons_succ, Option.toList_some, Option.toList_none, List.cons_append, List.nil_append]
      exact AW.ri rfl rfl rfl ⟨rfl, rfl⟩
  | some xs =>
    obtain ⟨a1, a2, a3⟩ := ho1 xs rfl
    rw [if_neg (show ¬ m1 h 1 = -1 by rw [hy1.1]; exact nI_m1 (by omega))]
    refine AW.b rfl (fun hc => ?_) (fun hc => ?_)
    · repeat refine AW.s rfl ?_
      try dsimp only [List.set_cons_zero, List.set_cons_succ, Option.toList_some, Option.toList_none, List.cons_append, List.nil_append]
      rw [hy1.1]
      cases o2 with
      | none =>
        have hy2 : m1 g 1 = -1 := hy2
        rw [hy2]
        refine AW.b rfl (fun hc => ?_) (fun hc => ?_)
        · exact absurd hc (nI_m1 (by omega))
        · repeat refine AW.s rfl ?_
          try dsimp only [List.set_cons_zero, List.set_cons_succ, Option.toList_some, Option.toList_none, List.cons_append, List.nil_append]
          exact AW.ri rfl rfl rfl ⟨rfl, rfl⟩
      | some ys =>
        obtain ⟨b1, b2, b3⟩ := ho2 ys rfl
        rw [hy2.1]
        refine AW.b rfl (fun hc => ?_) (fun hc => ?_)
        · have hlen : xs.length = ys.length := (nI_eq (by omega) (by omega)).mp hc
          repeat refine AW.u 22 rfl rfl ?_
          try dsimp only [List.set_cons_zero, List.set_cons_succ, Option.toList_some, Option.toList_none, List.cons_append, List.nil_append]
          refine AW.loop (pc := 22) (σ := Unit) xs.length (fun i _ => [vR 5 h, vR 5 g, vI (nI i)]) (fun i _ m2 => m2 = m1 ∧ xs.take i = ys.take i) (fun i _ m2 hi hm2 ih => ?_) 0 () m1 (Nat.zero_le _) ⟨rfl, rfl⟩
          obtain ⟨rfl, htk⟩ := hm2
          repeat refine AW.s rfl ?_
          try dsimp only [List.set_cons_zero, List.set_cons_succ, Option.toList_some, Option.toList_none, List.cons_append, List.nil_append]
          rw [hy1.1]
          refine AW.b rfl (fun hc => ?_) (fun hc => ?_)
          · have hlt : i < xs.length := (nI_ltI (by omega) (by omega)).mp hc
            obtain ⟨x, hx⟩ : ∃ x, xs[i]? = some x := ⟨_, List.getElem?_eq_getElem hlt⟩
            obtain ⟨y, hy⟩ : ∃ y, ys[i]? = some y := ⟨_, List.getElem?_eq_getElem (by omega)⟩
            have x26 := a1 x (List.mem_of_getElem? hx)
            have y26 := b1 y (List.mem_of_getElem? hy)
            repeat refine AW.s rfl ?_
            try dsimp only [List.set_cons_zero, List.set_cons_succ, Option.toList_some, Option.toList_none, List.cons_append, List.nil_append]
            refine AW.c rfl (vp_in_nI (by omega) (by decide)) ?_
            try dsimp only [List.set_cons_zero, List.set_cons_succ, Option.toList_some, Option.toList_none, List.cons_append, List.nil_append]
            rw [nI_clamp (by omega), hy1.2 i x hx]
            repeat refine AW.s rfl ?_
            try dsimp only [List.set_cons_zero, List.set_cons_succ, Option.toList_some, Option.toList_none, List.cons_append, List.nil_append]
            refine AW.c rfl (vp_in_nI (by omega) (by decide)) ?_
            try dsimp only [List.set_cons_zero, List.set_cons_succ, Option.toList_some, Option.toList_none, List.cons_append, List.nil_append]
            rw [nI_clamp (by omega), hy2.2 i y hy]
            refine AW.b rfl (fun hc => ?_) (fun hc => ?_)
            · have exy : x = y := (nI_eq (by omega) (by omega)).mp hc
              repeat refine AW.u 22 rfl rfl ?_
              try dsimp only [List.set_cons_zero, List.set_cons_succ, Option.toList_some, Option.toList_none, List.cons_append, List.nil_append]
              rw [nI_1]
              exact ih () _ hlt ⟨rfl, take_same hx hy exy htk⟩
            · repeat refine AW.s rfl ?_
              try dsimp only [List.set_cons_zero, List.set_cons_succ, Option.toList_some, Option.toList_none, List.cons_append, List.nil_append]
              refine AW.ri rfl rfl rfl ⟨?_, rfl⟩
              have : likeO (some xs) (some ys) = false := by
                unfold likeO
                simp only [Option.isSome_some, Bool.true_and, decide_eq_false_iff_not]
                intro e
                cases e
                rw [hx] at hy
                cases hy
                exact hc rfl
              rw [this]
              rfl
          · have : i = xs.length := by
              have : ¬ i < xs.length := fun q => hc ((nI_ltI (by omega) (by omega)).mpr q)
              omega
            subst this
            repeat refine AW.s rfl ?_
            try dsimp only [List.set_cons_zero, List.set_cons_succ, Option.toList_some, Option.toList_none, List.cons_append, List.nil_append]
            refine AW.ri rfl rfl rfl ⟨?_, rfl⟩
            rw [List.take_length, hlen, List.take_length] at htk
            subst htk
            simp [likeO]
        · repeat refine AW.s rfl ?_
          try dsimp only [List.set_cons_zero, List.set_cons_succ, Option.toList_some, Option.toList_none, List.cons_append, List.nil_append]
          refine AW.ri rfl rfl rfl ⟨?_, rfl⟩
          have : likeO (some xs) (some ys) = false := by
            unfold likeO
            simp only [Option.isSome_some, Bool.true_and, decide_eq_false_iff_not]
            intro e
            cases e
            exact hc rfl
          rw [this]
          rfl
    · exact absurd rfl hc
theorem c_isWord {l : Launch} {X : XT} {d : Nat} {h w : Nat} {m : Mem} {σ : Sg} {o : Option (List Nat)} (hs : RepS m 1 σ) (hσ : WF σ) (hw : w < σ 0 1) (hy1 : RY m h o) (ho1 : WFo o) : Meth l X d M_X4_isWord [vR 5 h, vR 8 1, vI (nI w)] m (fun r m' => r = some (vI (if o = some (wl σ w) then 1 else 0)) ∧ m' = m) := by
  obtain ⟨-, -, -, -, hs5, -⟩ := hs
  obtain ⟨-, w2, -, -, -, w6, -⟩ := hσ
  obtain ⟨q1, q2, q3⟩ := hs5 w hw
  obtain ⟨g1, g2, -, g4⟩ := w6 w hw
  have q1 : m 11 w = nI (σ 1 w) := q1
  refine E_X4_isWord (ls := [vR 5 h, vR 8 1, vI (nI w), vU]) rfl rfl ?_
  repeat refine AW.s rfl ?_
  try dsimp only [List.set_cons_zero, List.set_cons_succ, Option.toList_some, Option.toList_none, List.cons_append, List.nil_append]
  refine AW.c rfl (vp_in_nI (by omega) (by decide)) ?_
  try dsimp only [List.set_cons_zero, List.set_cons_succ, Option.toList_some, Option.toList_none, List.cons_append, List.nil_append]
  rw [nI_clamp (by omega), q1]
  cases o with
  | none =>
    have hy1 : m h 1 = -1 := hy1
    rw [hy1]
    refine AW.b rfl (fun hc => ?_) (fun hc => ?_)
    · exact absurd hc.symm (nI_m1 (by omega))
    · repeat refine AW.s rfl ?_
      try dsimp only [List.set_cons_zero, List.set_cons_succ, Option.toList_some, Option.toList_none, List.cons_append, List.nil_append]
      exact AW.ri rfl rfl rfl ⟨rfl, rfl⟩
  | some xs =>
    obtain ⟨a1, a2, a3⟩ := ho1 xs rfl
    rw [hy1.1]
    refine AW.b rfl (fun hc => ?_) (fun hc => ?_)
    · have hlen : xs.length = σ 1 w := (nI_eq (by omega) (by omega)).mp hc
      repeat refine AW.u 17 rfl rfl ?_
      try dsimp only [List.set_cons_zero, List.set_cons_succ, Option.toList_some, Option.toList_none, List.cons_append, List.nil_append]
      refine AW.loop (pc := 17) (σ := Unit) xs.length (fun i _ => [vR 5 h, vR 8 1, vI (nI w), vI (nI i)]) (fun i _ m2 => m2 = m ∧ xs.take i = (wl σ w).take i) (fun i _ m2 hi hm2 ih => ?_) 0 () m (Nat.zero_le _) ⟨rfl, rfl⟩
      obtain ⟨rfl, htk⟩ := hm2
      repeat refine AW.s rfl ?_
      try dsimp only [List.set_cons_zero, List.set_cons_succ, Option.toList_some, Option.toList_none, List.cons_append, List.nil_append]
      rw [hy1.1]
      refine AW.b rfl (fun hc => ?_) (fun hc => ?_)
      · have hlt : i < xs.length := (nI_ltI (by omega) (by omega)).mp hc
        obtain ⟨x, hx⟩ : ∃ x, xs[i]? = some x := ⟨_, List.getElem?_eq_getElem hlt⟩
        have x26 := a1 x (List.mem_of_getElem? hx)
        have y26 := g4 i (by omega)
        repeat refine AW.s rfl ?_
        try dsimp only [List.set_cons_zero, List.set_cons_succ, Option.toList_some, Option.toList_none, List.cons_append, List.nil_append]
        refine AW.c rfl (vp_in_nI (by omega) (by decide)) ?_
        try dsimp only [List.set_cons_zero, List.set_cons_succ, Option.toList_some, Option.toList_none, List.cons_append, List.nil_append]
        rw [nI_clamp (by omega), hy1.2 i x hx]
        repeat refine AW.s rfl ?_
        try dsimp only [List.set_cons_zero, List.set_cons_succ, Option.toList_some, Option.toList_none, List.cons_append, List.nil_append]
        refine AW.c rfl (vp_in_nI (by omega) (by decide)) ?_
        try dsimp only [List.set_cons_zero, List.set_cons_succ, Option.toList_some, Option.toList_none, List.cons_append, List.nil_append]
        rw [nI_clamp (by omega)]
        repeat refine AW.s rfl ?_
        try dsimp only [List.set_cons_zero, List.set_cons_succ, Option.toList_some, Option.toList_none, List.cons_append, List.nil_append]
        refine AW.c rfl (vp_in_nI (by omega) (by decide)) ?_
        try dsimp only [List.set_cons_zero, List.set_cons_succ, Option.toList_some, Option.toList_none, List.cons_append, List.nil_append]
        rw [nI_clamp (by omega)]
        have hval : m2 (1 + 1 + 1 + 1 * w) i = nI (σ (10 + w) i) := by
          rw [← q3 i (by omega)]
          congr 1
          omega
        rw [show m2 (2 + 1 + 1 * w) i = nI (σ (10 + w) i) from hval]
        refine AW.b rfl (fun hc => ?_) (fun hc => ?_)
        · have exy : x = σ (10 + w) i := (nI_eq (by omega) (by omega)).mp hc
          repeat refine AW.u 17 rfl rfl ?_
          try dsimp only [List.set_cons_zero, List.set_cons_succ, Option.toList_some, Option.toList_none, List.cons_append, List.nil_append]
          rw [nI_1]
          exact ih () _ hlt ⟨rfl, take_same hx (wl_at (by omega)) exy htk⟩
        · repeat refine AW.s rfl ?_
          try dsimp only [List.set_cons_zero, List.set_cons_succ, Option.toList_some, Option.toList_none, List.cons_append, List.nil_append]
          refine AW.ri rfl rfl rfl ⟨?_, rfl⟩
          rw [if_neg]
          intro e
          cases e
          obtain ⟨-, rfl⟩ := wl_get hx
          exact hc rfl
      · have : i = xs.length := by
          have : ¬ i < xs.length := fun q => hc ((nI_ltI (by omega) (by omega)).mpr q)
          omega
        subst this
        repeat refine AW.s rfl ?_
        try dsimp only [List.set_cons_zero, List.set_cons_succ, Option.toList_some, Option.toList_none, List.cons_append, List.nil_append]
        refine AW.ri rfl rfl rfl ⟨?_, rfl⟩
        rw [List.take_length, hlen, ← wl_len (σ := σ) (w := w), List.take_length] at htk
        rw [if_pos (by rw [htk])]
    · repeat refine AW.s rfl ?_
      try dsimp only [List.set_cons_zero, List.set_cons_succ, Option.toList_some, Option.toList_none, List.cons_append, List.nil_append]
      refine AW.ri rfl rfl rfl ⟨?_, rfl⟩
      rw [if_neg]
      intro e
      cases e
      rw [wl_len] at hc
      exact hc rfl
def diffN (xs ys : List Nat) : Nat := (xs.zip ys).countP (fun p => !(p.1 == p.2))
theorem diffN_take {xs ys : List Nat} {i x y : Nat} (hx : xs[i]? = some x) (hy : ys[i]? = some y) : diffN (xs.take (i + 1)) (ys.take (i + 1)) = diffN (xs.take i) (ys.take i) + (if x = y then 0 else 1) := by
  have h1 : i < xs.length := (List.getElem?_eq_some_iff.mp hx).1
  have h2 : i < ys.length := (List.getElem?_eq_some_iff.mp hy).1
  unfold diffN
  rw [List.take_add_one, List.take_add_one, hx, hy, List.zip_append (by rw [List.length_take, List.length_take]; omega), List.countP_append]
  congr 1
  by_cases e : x = y <;> simp [e]
theorem c_differences {l : Launch} {X : XT} {d : Nat} {h g : Nat} {m : Mem} {xs ys : List Nat} (hy1 : RY m h (some xs)) (ho1 : WFo (some xs)) (hy2 : RY m g (some ys)) (ho2 : WFo (some ys)) (hlen : xs.length = ys.length) : Meth l X d M_X4_differences [vR 5 h, vR 5 g] m (fun r m' => r = some (vI (nI (diffN xs ys))) ∧ m' = m) := by
  obtain ⟨a1, a2, a3⟩ := ho1 xs rfl
  obtain ⟨b1, b2, b3⟩ := ho2 ys rfl
  refine E_X4_differences (ls := [vR 5 h, vR 5 g, vU, vU]) rfl rfl ?_
  repeat refine AW.u 4 rfl rfl ?_
  try dsimp only [List.set_cons_zero, List.set_cons_succ, Option.toList_some, Option.toList_none, List.cons_append, List.nil_append]
  refine AW.loop (pc := 4) (σ := Unit) xs.length (fun i _ => [vR 5 h, vR 5 g, vI (nI (diffN (xs.take i) (ys.take i))), vI (nI i)]) (fun i _ m2 => m2 = m) (fun i _ m2 hi hm2 ih => ?_) 0 () m (Nat.zero_le _) rfl
  subst hm2
  repeat refine AW.s rfl ?_
  try dsimp only [List.set_cons_zero, List.set_cons_succ, Option.toList_some, Option.toList_none, List.cons_append, List.nil_append]
  rw [hy1.1]
  refine AW.b rfl (fun hc => ?_) (fun hc => ?_)
  · have hlt : i < xs.length := (nI_ltI (by omega) (by omega)).mp hc
    obtain ⟨x, hx⟩ : ∃ x, xs[i]? = some x := ⟨_, List.getElem?_eq_getElem hlt⟩
    obtain ⟨y, hy⟩ : ∃ y, ys[i]? = some y := ⟨_, List.getElem?_eq_getElem (by omega)⟩
    have x26 := a1 x (List.mem_of_getElem? hx)
    have y26 := b1 y (List.mem_of_getElem? hy)
    repeat refine AW.s rfl ?_
    try dsimp only [List.set_cons_zero, List.set_cons_succ, Option.toList_some, Option.toList_none, List.cons_append, List.nil_append]
    refine AW.c rfl (vp_in_nI (by omega) (by decide)) ?_
    try dsimp only [List.set_cons_zero, List.set_cons_succ, Option.toList_some, Option.toList_none, List.cons_append, List.nil_append]
    rw [nI_clamp (by omega), hy1.2 i x hx]
    repeat refine AW.s rfl ?_
    try dsimp only [List.set_cons_zero, List.set_cons_succ, Option.toList_some, Option.toList_none, List.cons_append, List.nil_append]
    refine AW.c rfl (vp_in_nI (by omega) (by decide)) ?_
    try dsimp only [List.set_cons_zero, List.set_cons_succ, Option.toList_some, Option.toList_none, List.cons_append, List.nil_append]
    rw [nI_clamp (by omega), hy2.2 i y hy]
    have hdt := diffN_take hx hy
    refine AW.b rfl (fun hc => ?_) (fun hc => ?_)
    · have exy : x = y := (nI_eq (by omega) (by omega)).mp hc
      repeat refine AW.u 4 rfl rfl ?_
      try dsimp only [List.set_cons_zero, List.set_cons_succ, Option.toList_some, Option.toList_none, List.cons_append, List.nil_append]
      rw [if_pos exy] at hdt
      have hdt : diffN (xs.take (i + 1)) (ys.take (i + 1)) = diffN (xs.take i) (ys.take i) := hdt
      rw [← hdt, nI_1]
      exact ih () _ hlt rfl
    · rw [if_neg (fun q => hc (by rw [q]))] at hdt
      repeat refine AW.u 4 rfl rfl ?_
      try dsimp only [List.set_cons_zero, List.set_cons_succ, Option.toList_some, Option.toList_none, List.cons_append, List.nil_append]
      rw [nI_1, nI_1, ← hdt]
      exact ih () _ hlt rfl
  · have : i = xs.length := by
      have : ¬ i < xs.length := fun q => hc ((nI_ltI (by omega) (by omega)).mpr q)
      omega
    subst this
    repeat refine AW.s rfl ?_
    try dsimp only [List.set_cons_zero, List.set_cons_succ, Option.toList_some, Option.toList_none, List.cons_append, List.nil_append]
    rw [List.take_length, hlen, List.take_length]
    exact AW.ri rfl rfl rfl ⟨rfl, rfl⟩
