/-- reads digits from p on, f places left: where it ends, and the number -/
def nbF (g : Nat → Int32) (f p : Nat) (v : Int32) : Nat × Int32 := match f with
  | 0 => (p, v)
  | f + 1 => if g p < 48 then (p, v) else if 57 < g p then (p, v) else nbF g f (p + 1) (v * 10 + g p - 48)
theorem c_scanNumber {l : Launch} {X : XT} {d : Nat} {s t p : Nat} {m : Mem} (hd : 1 ≤ d) (hs : m 36 1 = nI s) (hs1 : s ≤ 160) (hp : p ≤ s) (ht : m 36 5 = nI t) (ht1 : t ≤ 160) : Meth l X d M_X8_scanNumber [vR 9 36, vI (nI p)] m (fun r m' => r = some (vI (nI (nbF (m 37) (s - p) p 0).1)) ∧ m' = mUp (mUp (mUp (mUp m 38 t (if 4 < (nbF (m 37) (s - p) p 0).1 - p then 1 else 2)) 39 t (nbF (m 37) (s - p) p 0).2) 40 t (nI p)) 36 5 (nI (t + 1))) := by
  obtain ⟨d, rfl⟩ : ∃ e, d = e + 1 := ⟨d - 1, by omega⟩
  refine E_X8_scanNumber (ls := [vR 9 36, vI (nI p), vU, vU]) rfl rfl ?_
  repeat refine AW.u 4 rfl rfl ?_
  try dsimp only [List.set_cons_zero, List.set_cons_succ, Option.toList_some, Option.toList_none, List.cons_append, List.nil_append]
  refine AW.loop (pc := 4) (σ := Int32) (s - p) (fun i v => [vR 9 36, vI (nI p), vI (nI (p + i)), vI v]) (fun i v m1 => m1 = m ∧ nbF (m 37) (s - p) p 0 = nbF (m 37) (s - p - i) (p + i) v) (fun i v m1 hi hm1 ih => ?_) 0 0 m (Nat.zero_le _) ⟨rfl, rfl⟩
  obtain ⟨rfl, hb⟩ := hm1
  have hend : nbF (m1 37) (s - p) p 0 = (p + i, v) → AW (GM l X (d + 1) M_X8_scanNumber (fun r m' => r = some (vI (nI (nbF (m1 37) (s - p) p 0).1)) ∧ m' = mUp (mUp (mUp (mUp m1 38 t (if 4 < (nbF (m1 37) (s - p) p 0).1 - p then 1 else 2)) 39 t (nbF (m1 37) (s - p) p 0).2) 40 t (nI p)) 36 5 (nI (t + 1)))) 55 [vR 9 36, vI (nI p), vI (nI (p + i)), vI v] [] m1 := by
    intro he
    rw [he]
    repeat refine AW.s rfl ?_
    try dsimp only [List.set_cons_zero, List.set_cons_succ, Option.toList_some, Option.toList_none, List.cons_append, List.nil_append]
    rw [show nI (p + i) - nI p = nI i by rw [Nat.add_comm, ← nI_add]; exact Int32.add_sub_cancel _ _]
    refine AW.b rfl (fun hc => ?_) (fun hc => ?_)
    · have q : 4 < i := (nI_ltI (a := 4) (by decide) (by omega)).mp hc
      repeat refine AW.s rfl ?_
      try dsimp only [List.set_cons_zero, List.set_cons_succ, Option.toList_some, Option.toList_none, List.cons_append, List.nil_append]
      refine AW.V k_8_38 ((c_addToken ht ht1)) rfl rfl rfl rfl rfl rfl (fun r1 m2 hq => ?_)
      obtain ⟨rfl, hm2⟩ := hq
      rw [hm2]
      repeat refine AW.s rfl ?_
      try dsimp only [List.set_cons_zero, List.set_cons_succ, Option.toList_some, Option.toList_none, List.cons_append, List.nil_append]
      exact AW.ri rfl rfl rfl ⟨rfl, by rw [show (p + i, v).1 - p = i from Nat.add_sub_cancel_left _ _, if_pos q]⟩
    · have q : ¬ 4 < i := fun q => hc (nI_lt (a := 4) q (by omega))
      repeat refine AW.s rfl ?_
      try dsimp only [List.set_cons_zero, List.set_cons_succ, Option.toList_some, Option.toList_none, List.cons_append, List.nil_append]
      refine AW.V k_8_38 ((c_addToken ht ht1)) rfl rfl rfl rfl rfl rfl (fun r1 m2 hq => ?_)
      obtain ⟨rfl, hm2⟩ := hq
      rw [hm2]
      repeat refine AW.s rfl ?_
      try dsimp only [List.set_cons_zero, List.set_cons_succ, Option.toList_some, Option.toList_none, List.cons_append, List.nil_append]
      exact AW.ri rfl rfl rfl ⟨rfl, by rw [show (p + i, v).1 - p = i from Nat.add_sub_cancel_left _ _, if_neg q]⟩
  repeat refine AW.s rfl ?_
  try dsimp only [List.set_cons_zero, List.set_cons_succ, Option.toList_some, Option.toList_none, List.cons_append, List.nil_append]
  rw [hs]
  refine AW.b rfl (fun hc => ?_) (fun hc => ?_)
  · have hlt : p + i < s := (nI_ltI (by omega) (by omega)).mp hc
    obtain ⟨f, hff⟩ : ∃ f, s - p - i = f + 1 := ⟨s - p - i - 1, by omega⟩
    rw [hff] at hb
    have hb : nbF (m1 37) (s - p) p 0 = if m1 37 (p + i) < 48 then (p + i, v) else if 57 < m1 37 (p + i) then (p + i, v) else nbF (m1 37) f (p + i + 1) (v * 10 + m1 37 (p + i) - 48) := hb
    repeat refine AW.s rfl ?_
    try dsimp only [List.set_cons_zero, List.set_cons_succ, Option.toList_some, Option.toList_none, List.cons_append, List.nil_append]
    refine AW.c rfl (vp_in_nI (by omega) (by decide)) ?_
    try dsimp only [List.set_cons_zero, List.set_cons_succ, Option.toList_some, Option.toList_none, List.cons_append, List.nil_append]
    rw [nI_clamp (by omega)]
    repeat refine AW.s rfl ?_
    try dsimp only [List.set_cons_zero, List.set_cons_succ, Option.toList_some, Option.toList_none, List.cons_append, List.nil_append]
    refine AW.b rfl (fun hc => ?_) (fun hc => ?_)
    · rw [if_pos (show m1 37 (p + i) < 48 from hc)] at hb
      exact hend hb
    · rw [if_neg (show ¬ m1 37 (p + i) < 48 from hc)] at hb
      repeat refine AW.s rfl ?_
      try dsimp only [List.set_cons_zero, List.set_cons_succ, Option.toList_some, Option.toList_none, List.cons_append, List.nil_append]
      refine AW.c rfl (vp_in_nI (by omega) (by decide)) ?_
      try dsimp only [List.set_cons_zero, List.set_cons_succ, Option.toList_some, Option.toList_none, List.cons_append, List.nil_append]
      rw [nI_clamp (by omega)]
      repeat refine AW.s rfl ?_
      try dsimp only [List.set_cons_zero, List.set_cons_succ, Option.toList_some, Option.toList_none, List.cons_append, List.nil_append]
      refine AW.b rfl (fun hc => ?_) (fun hc => ?_)
      · rw [if_pos (show 57 < m1 37 (p + i) from hc)] at hb
        exact hend hb
      · rw [if_neg (show ¬ 57 < m1 37 (p + i) from hc)] at hb
        repeat refine AW.s rfl ?_
        try dsimp only [List.set_cons_zero, List.set_cons_succ, Option.toList_some, Option.toList_none, List.cons_append, List.nil_append]
        refine AW.c rfl (vp_in_nI (by omega) (by decide)) ?_
        try dsimp only [List.set_cons_zero, List.set_cons_succ, Option.toList_some, Option.toList_none, List.cons_append, List.nil_append]
        rw [nI_clamp (by omega)]
        repeat refine AW.u 4 rfl rfl ?_
        try dsimp only [List.set_cons_zero, List.set_cons_succ, Option.toList_some, Option.toList_none, List.cons_append, List.nil_append]
        rw [nI_1]
        exact ih _ _ (by omega) ⟨rfl, by rw [hb, show s - p - (i + 1) = f by omega]; rfl⟩
  · have hge : s = p + i := by
      have : ¬ p + i < s := fun q => hc (nI_lt q (by omega))
      omega
    rw [show s - p - i = 0 by omega] at hb
    exact hend hb
