def gT (V K lt n x : Nat) : List Nat := (if K = 2 ∨ (K = 4 ∧ V.testBit x = true) then (x + n) % 26 else x) :: (if (K = 1 ∨ K = 3) ∧ V.testBit x = true then [lt] else [])
def zT (K : Nat) (xs : List Nat) : List Nat := if K = 5 then xs.reverse else xs
def oT (V K lt n : Nat) (xs : List Nat) : List Nat := (zT K xs).flatMap (gT V K lt n)
theorem flat_take {α : Type} {zs : List Nat} {g : Nat → List α} {i x : Nat} (h : zs[i]? = some x) : (zs.take (i + 1)).flatMap g = (zs.take i).flatMap g ++ g x := by
  rw [List.take_add_one, h, List.flatMap_append]
  simp
theorem gT_len {V K lt n x : Nat} : (gT V K lt n x).length ≤ 2 := by
  unfold gT
  split <;> split <;> simp
theorem flat_len {V K lt n : Nat} (zs : List Nat) : (zs.flatMap (gT V K lt n)).length ≤ 2 * zs.length := by
  induction zs with
  | nil => simp
  | cons a r ih =>
    rw [List.flatMap_cons, List.length_append, List.length_cons]
    have := gT_len (V := V) (K := K) (lt := lt) (n := n) (x := a)
    omega
theorem oT_turn {V K lt n : Nat} {xs : List Nat} (hK : K < 6) (hl : xs.length ≤ 40) : lim (if K = 3 then oT V K lt n xs ++ (oT V K lt n xs).take 1 else oT V K lt n xs) = turnL V K lt n xs := by
  have hid : ∀ zs : List Nat, zs.flatMap (fun x => [x]) = zs := by
    intro zs; induction zs with
    | nil => rfl
    | cons a r ih => rw [List.flatMap_cons, ih]; rfl
  have hmap : ∀ (f : Nat → Nat) (zs : List Nat), zs.flatMap (fun x => [f x]) = zs.map f := by
    intro f zs; induction zs with
    | nil => rfl
    | cons a r ih => rw [List.flatMap_cons, ih]; rfl
  rcases k6 hK with e | e | e | e | e | e <;> subst e
  · have h1 : oT V 0 lt n xs = xs := by
      unfold oT zT; rw [if_neg (by decide)]
      have : gT V 0 lt n = fun x => [x] := by funext x; simp [gT]
      rw [this, hid]
    rw [if_neg (by decide), h1]
    unfold lim turnL
    rw [if_pos hl]
    rfl
  · have h1 : oT V 1 lt n xs = insA V lt xs := by
      unfold oT zT insA; rw [if_neg (by decide)]
      congr 1
      funext x
      by_cases q : V.testBit x = true <;> simp [gT, q]
    rw [if_neg (by decide), h1]
    rfl
  · have h1 : oT V 2 lt n xs = shf n xs := by
      unfold oT zT shf; rw [if_neg (by decide)]
      have : gT V 2 lt n = fun x => [(x + n) % 26] := by funext x; simp [gT]
      rw [this, hmap]
    rw [if_neg (by decide), h1]
    unfold lim turnL
    rw [if_pos (by simp [shf]; exact hl)]
    rfl
  · have h1 : oT V 3 lt n xs = insA V lt xs := by
      unfold oT zT insA; rw [if_neg (by decide)]
      congr 1
      funext x
      by_cases q : V.testBit x = true <;> simp [gT, q]
    rw [if_pos rfl, h1]
    rfl
  · have h1 : oT V 4 lt n xs = shV V n xs := by
      unfold oT zT shV; rw [if_neg (by decide)]
      have : gT V 4 lt n = fun x => [if V.testBit x = true then (x + n) % 26 else x] := by
        funext x
        by_cases q : V.testBit x = true <;> simp [gT, q]
      rw [this, hmap]
    rw [if_neg (by decide), h1]
    unfold lim turnL
    rw [if_pos (by simp [shV]; exact hl)]
    rfl
  · have h1 : oT V 5 lt n xs = xs.reverse := by
      unfold oT zT; rw [if_pos rfl]
      have : gT V 5 lt n = fun x => [x] := by funext x; simp [gT]
      rw [this, hid]
    rw [if_neg (by decide), h1]
    unfold lim turnL
    rw [if_pos (by simp; exact hl)]
    rfl
theorem RLn_add {g : Nat → Int32} {ys : List Nat} {v : Nat} (h : RLn g ys) : RLn (upd g ys.length (nI v)) (ys ++ [v]) := by
  intro k x hk
  by_cases e : k = ys.length
  · subst e
    rw [List.getElem?_append_right (Nat.le_refl _), Nat.sub_self] at hk
    cases hk
    simp [upd]
  · have hk2 : k < ys.length := by
      have := (List.getElem?_eq_some_iff.mp hk).1
      rw [List.length_append] at this
      have : k < ys.length + 1 := this
      omega
    rw [List.getElem?_append_left hk2] at hk
    simp only [upd, if_neg e]
    exact h k x hk
theorem mUp_row (m : Mem) (h k : Nat) (x : Int32) : mUp m h k x h = upd (m h) k x := mSr_s _ _ _
theorem c_Mturn {l : Launch} {X : XT} {d : Nat} {r : Nat} {m : Mem} {σ : Sg} {xs : List Nat} (hd : 1 ≤ d) (hs : RepM m σ) (hσ : WF σ) (hr : r < σ 0 2) (hy : RTn m (some xs)) (ho : WFo (some xs)) : Meth l X d M_X11_turn [vR 12 243, vI (nI r)] m (fun r1 m' => r1 = none ∧ RTn m' (turnS σ r (some xs)) ∧ FrT m m') := by
  obtain ⟨d, rfl⟩ : ∃ e, d = e + 1 := ⟨d - 1, by omega⟩
  obtain ⟨hg, h1l, h40⟩ := ho xs rfl
  have hr6 : r < 6 := Nat.lt_of_lt_of_le hr hσ.2.2.1
  obtain ⟨q1, q2, q3⟩ := hs.2.2.2.2.2.2.1 r hr
  obtain ⟨w1, w2, w3⟩ := hσ.2.2.2.2.2.2.1 r hr
  have hV := hs.1
  have hV26 := hσ.1
  have hts : turnS σ r (some xs) = turnL (σ 0 0) (σ 3 r) (σ 4 r) (σ 5 r) xs := rfl
  rw [hts, ← oT_turn w1 h40]
  generalize σ 0 0 = V at *
  generalize σ 3 r = K at *
  generalize σ 4 r = lt at *
  generalize σ 5 r = n at *
  refine E_X11_turn (ls := [vR 12 243, vI (nI r), vU, vU, vU, vU, vU]) rfl rfl ?_
  repeat refine AW.s rfl ?_
  try dsimp only [List.set_cons_zero, List.set_cons_succ, Option.toList_some, Option.toList_none, List.cons_append, List.nil_append]
  refine AW.c rfl (vp_in_nI (by omega) (by decide)) ?_
  try dsimp only [List.set_cons_zero, List.set_cons_succ, Option.toList_some, Option.toList_none, List.cons_append, List.nil_append]
  rw [nI_clamp (by omega), show m (243 + 4) r = nI K from q1]
  repeat refine AW.u 12 rfl rfl ?_
  try dsimp only [List.set_cons_zero, List.set_cons_succ, Option.toList_some, Option.toList_none, List.cons_append, List.nil_append]
  have hzl : (zT K xs).length = xs.length := by unfold zT; split <;> simp
  refine AW.loop (pc := 12) (σ := Unit) xs.length (fun i _ => [vR 12 243, vI (nI r), vI (nI (((zT K xs).take i).flatMap (gT V K lt n)).length), vI (nI K), vI (nI i), vU, vU]) (fun i _ m1 => FrT m m1 ∧ m1 243 36 = nI xs.length ∧ m1 262 = m 262 ∧ RLn (m1 263) (((zT K xs).take i).flatMap (gT V K lt n))) (fun i _ m1 hi hm1 ih => ?_) 0 () m (Nat.zero_le _) ⟨FrT.rf, hy.1, rfl, fun k x hk => by simp at hk⟩
  obtain ⟨hf, hz, h262, hv⟩ := hm1
  repeat refine AW.s rfl ?_
  try dsimp only [List.set_cons_zero, List.set_cons_succ, Option.toList_some, Option.toList_none, List.cons_append, List.nil_append]
  rw [hz]
  refine AW.b rfl (fun hc => ?_) (fun hc => ?_)
  · have hlt : i < xs.length := (nI_ltI (by omega) (by omega)).mp hc
    obtain ⟨x, hx⟩ : ∃ x, (zT K xs)[i]? = some x := ⟨_, List.getElem?_eq_getElem (by omega)⟩
    have hx26 : x < 26 := by
      have hm := List.mem_of_getElem? hx
      unfold zT at hm
      split at hm
      · exact hg x (List.mem_reverse.mp hm)
      · exact hg x hm
    have hft := flat_take (g := gT V K lt n) hx
    have hpl : (((zT K xs).take i).flatMap (gT V K lt n)).length ≤ 78 := by
      have := flat_len (V := V) (K := K) (lt := lt) (n := n) ((zT K xs).take i)
      rw [List.length_take] at this
      omega
    generalize hP : ((zT K xs).take i).flatMap (gT V K lt n) = P at *
    have hV1 : m1 243 0 = nI V := by rw [hf.2 0 (by decide)]; exact hV
    -- from the place where the letter has been stored
    have hD : ∀ m2 : Mem, FrT m m2 → m2 243 36 = nI xs.length → m2 262 = m 262 → ∀ v : Nat, v = (if K = 2 ∨ (K = 4 ∧ V.testBit x = true) then (x + n) % 26 else x) → RLn (m2 263) (P ++ [v]) → ∀ b : AV, AW (GM l X (d + 1) M_X11_turn (fun r1 m' => r1 = none ∧ RTn m' (lim (if K = 3 then oT V K lt n xs ++ (oT V K lt n xs).take 1 else oT V K lt n xs)) ∧ FrT m m')) 106 [vR 12 243, vI (nI r), vI (nI P.length), vI (nI K), vI (nI i), vI (nI x), b] [] m2 := by
      intro m2 hf2 hz2 h2622 v hvv hv2 b
      have hE : (((zT K xs).take (i + 1)).flatMap (gT V K lt n)) = P ++ [v] → AW (GM l X (d + 1) M_X11_turn (fun r1 m' => r1 = none ∧ RTn m' (lim (if K = 3 then oT V K lt n xs ++ (oT V K lt n xs).take 1 else oT V K lt n xs)) ∧ FrT m m')) 143 [vR 12 243, vI (nI r), vI (nI (P.length + 1)), vI (nI K), vI (nI i), vI (nI x), b] [] m2 := by
        intro e
        repeat refine AW.u 12 rfl rfl ?_
        try dsimp only [List.set_cons_zero, List.set_cons_succ, Option.toList_some, Option.toList_none, List.cons_append, List.nil_append]
        rw [nI_1]
        refine AW.fg 5 (AW.fg 6 ?_)
        try dsimp only [List.set_cons_zero, List.set_cons_succ, Option.toList_some, Option.toList_none, List.cons_append, List.nil_append]
        refine AW.at (ih () m2 hlt ⟨hf2, hz2, h2622, by rw [e]; exact hv2⟩) rfl ?_ rfl rfl
        rw [e, List.length_append]
        rfl
      have hV2 : m2 243 0 = nI V := by rw [hf2.2 0 (by decide)]; exact hV
      have hF : (K = 1 ∨ K = 3) → AW (GM l X (d + 1) M_X11_turn (fun r1 m' => r1 = none ∧ RTn m' (lim (if K = 3 then oT V K lt n xs ++ (oT V K lt n xs).take 1 else oT V K lt n xs)) ∧ FrT m m')) 119 [vR 12 243, vI (nI r), vI (nI (P.length + 1)), vI (nI K), vI (nI i), vI (nI x), b] [] m2 := by
        intro hK13
        repeat refine AW.s rfl ?_
        try dsimp only [List.set_cons_zero, List.set_cons_succ, Option.toList_some, Option.toList_none, List.cons_append, List.nil_append]
        refine AW.V k_11_211 ((c_MisVowel hV2 hV26 hx26)) rfl rfl rfl rfl rfl rfl (fun r1 m9 hq => ?_)
        obtain ⟨rfl, hm9⟩ := hq
        rw [hm9]
        try dsimp only [List.set_cons_zero, List.set_cons_succ, Option.toList_some, Option.toList_none, List.cons_append, List.nil_append]
        by_cases q : V.testBit x = true
        · rw [if_pos q]
          refine AW.b rfl (fun hc => ?_) (fun hc => ?_)
          · exact absurd hc (by decide)
          · repeat refine AW.s rfl ?_
            try dsimp only [List.set_cons_zero, List.set_cons_succ, Option.toList_some, Option.toList_none, List.cons_append, List.nil_append]
            refine AW.c rfl (vp_in_nI (by omega) (by decide)) ?_
            try dsimp only [List.set_cons_zero, List.set_cons_succ, Option.toList_some, Option.toList_none, List.cons_append, List.nil_append]
            rw [nI_clamp (by omega), show m2 (243 + 5) r = nI lt by rw [hf2.1 _ (by decide) (by decide) (by decide)]; exact q2]
            refine AW.c rfl (⟨vp_in_nI (by omega) (by decide), fun q => absurd q (by decide)⟩) ?_
            try dsimp only [List.set_cons_zero, List.set_cons_succ, Option.toList_some, Option.toList_none, List.cons_append, List.nil_append]
            rw [nI_clamp (by omega)]
            repeat refine AW.u 12 rfl rfl ?_
            try dsimp only [List.set_cons_zero, List.set_cons_succ, Option.toList_some, Option.toList_none, List.cons_append, List.nil_append]
            rw [nI_1, nI_1]
            have hgx : gT V K lt n x = [v, lt] := by
              unfold gT
              rw [← hvv, if_pos ⟨hK13, q⟩]
            refine AW.fg 5 (AW.fg 6 ?_)
            try dsimp only [List.set_cons_zero, List.set_cons_succ, Option.toList_some, Option.toList_none, List.cons_append, List.nil_append]
            refine AW.at (ih () _ hlt ⟨hf2.tr ⟨fun a _ _ h3 => mUp_a h3, fun k _ => mUp_n (Or.inl (by decide))⟩, by rw [mUp_a (by decide)]; exact hz2, by rw [mUp_a (by decide)]; exact h2622, ?_⟩) rfl ?_ rfl rfl
            · rw [hft, hgx, show P ++ [v, lt] = (P ++ [v]) ++ [lt] by simp, mUp_row]
              have h9 := RLn_add (v := lt) hv2
              rw [List.length_append] at h9
              exact h9
            · rw [hft, hgx, List.length_append]
              rfl
        · rw [if_neg q]
          refine AW.b rfl (fun hc => ?_) (fun hc => ?_)
          · refine hE ?_
            rw [hft]
            unfold gT
            rw [← hvv, if_neg (fun z => q z.2)]
          · exact absurd rfl hc
      repeat refine AW.s rfl ?_
      try dsimp only [List.set_cons_zero, List.set_cons_succ, Option.toList_some, Option.toList_none, List.cons_append, List.nil_append]
      rw [nI_1]
      refine AW.b rfl (fun hc => ?_) (fun hc => ?_)
      · have e : K = 1 := (nI_eq (b := 1) (by omega) (by decide)).mp hc
        exact hF (Or.inl e)
      · have e1 : ¬ K = 1 := fun q => hc (by rw [q]; rfl)
        repeat refine AW.s rfl ?_
        try dsimp only [List.set_cons_zero, List.set_cons_succ, Option.toList_some, Option.toList_none, List.cons_append, List.nil_append]
        refine AW.b rfl (fun hc => ?_) (fun hc => ?_)
        · have e : K = 3 := (nI_eq (b := 3) (by omega) (by decide)).mp hc
          exact hF (Or.inr e)
        · have e3 : ¬ K = 3 := fun q => hc (by rw [q]; rfl)
          refine hE ?_
          rw [hft]
          unfold gT
          rw [← hvv, if_neg (fun z => z.1.elim e1 e3)]
    -- from the place where it is known whether it shifts
    have hB : ∀ b : Bool, (b = true ↔ (K = 2 ∨ (K = 4 ∧ V.testBit x = true))) → AW (GM l X (d + 1) M_X11_turn (fun r1 m' => r1 = none ∧ RTn m' (lim (if K = 3 then oT V K lt n xs ++ (oT V K lt n xs).take 1 else oT V K lt n xs)) ∧ FrT m m')) 76 [vR 12 243, vI (nI r), vI (nI P.length), vI (nI K), vI (nI i), vI (nI x), vU] [vI (if b then 1 else 0)] m1 := by
      intro b hb
      have hst : ∀ v : Nat, v = (if K = 2 ∨ (K = 4 ∧ V.testBit x = true) then (x + n) % 26 else x) → AW (GM l X (d + 1) M_X11_turn (fun r1 m' => r1 = none ∧ RTn m' (lim (if K = 3 then oT V K lt n xs ++ (oT V K lt n xs).take 1 else oT V K lt n xs)) ∧ FrT m m')) 105 [vR 12 243, vI (nI r), vI (nI P.length), vI (nI K), vI (nI i), vI (nI x), vI (if b then 1 else 0)] [vI (nI v), vI (nI P.length), vR 1090 263] m1 := by
        intro v hv9
        refine AW.c rfl (⟨vp_in_nI (by omega) (by decide), fun q => absurd q (by decide)⟩) ?_
        try dsimp only [List.set_cons_zero, List.set_cons_succ, Option.toList_some, Option.toList_none, List.cons_append, List.nil_append]
        rw [nI_clamp (by omega)]
        refine hD _ (hf.tr ⟨fun a _ _ h3 => mUp_a h3, fun k _ => mUp_n (Or.inl (by decide))⟩) (by rw [mUp_a (by decide)]; exact hz) (by rw [mUp_a (by decide)]; exact h262) v hv9 ?_ _
        rw [mUp_row]
        exact RLn_add hv
      repeat refine AW.s rfl ?_
      try dsimp only [List.set_cons_zero, List.set_cons_succ, Option.toList_some, Option.toList_none, List.cons_append, List.nil_append]
      by_cases q : b = true
      · rw [if_pos q]
        refine AW.b rfl (fun hc => ?_) (fun hc => ?_)
        · exact absurd hc (by decide)
        · repeat refine AW.s rfl ?_
          try dsimp only [List.set_cons_zero, List.set_cons_succ, Option.toList_some, Option.toList_none, List.cons_append, List.nil_append]
          refine AW.c rfl (vp_in_nI (by omega) (by decide)) ?_
          try dsimp only [List.set_cons_zero, List.set_cons_succ, Option.toList_some, Option.toList_none, List.cons_append, List.nil_append]
          rw [nI_clamp (by omega), show m1 (243 + 6) r = nI n by rw [hf.1 _ (by decide) (by decide) (by decide)]; exact q3]
          iterate 2 refine AW.s rfl ?_
          try dsimp only [List.set_cons_zero, List.set_cons_succ, Option.toList_some, Option.toList_none, List.cons_append, List.nil_append]
          refine AW.c rfl (by decide) ?_
          try dsimp only [List.set_cons_zero, List.set_cons_succ, Option.toList_some, Option.toList_none, List.cons_append, List.nil_append]
          rw [rem26 (by omega) (by omega)]
          refine AW.s rfl ?_
          try dsimp only [List.set_cons_zero, List.set_cons_succ, Option.toList_some, Option.toList_none, List.cons_append, List.nil_append]
          have h9 := hst ((x + n) % 26) (by rw [if_pos (hb.mp q)])
          rw [if_pos q] at h9
          exact h9
      · rw [if_neg q]
        refine AW.b rfl (fun hc => ?_) (fun hc => ?_)
        · refine AW.s rfl ?_
          try dsimp only [List.set_cons_zero, List.set_cons_succ, Option.toList_some, Option.toList_none, List.cons_append, List.nil_append]
          have h9 := hst x (by rw [if_neg (fun z => q (hb.mpr z))])
          rw [if_neg q] at h9
          exact h9
        · exact absurd rfl hc
    -- from the place where the letter is known
    have hA : AW (GM l X (d + 1) M_X11_turn (fun r1 m' => r1 = none ∧ RTn m' (lim (if K = 3 then oT V K lt n xs ++ (oT V K lt n xs).take 1 else oT V K lt n xs)) ∧ FrT m m')) 50 [vR 12 243, vI (nI r), vI (nI P.length), vI (nI K), vI (nI i), vU, vU] [vI (nI x)] m1 := by
      repeat refine AW.s rfl ?_
      try dsimp only [List.set_cons_zero, List.set_cons_succ, Option.toList_some, Option.toList_none, List.cons_append, List.nil_append]
      refine AW.b rfl (fun hc => ?_) (fun hc => ?_)
      · have e : K = 2 := (nI_eq (b := 2) (by omega) (by decide)).mp hc
        iterate 2 refine AW.s rfl ?_
        try dsimp only [List.set_cons_zero, List.set_cons_succ, Option.toList_some, Option.toList_none, List.cons_append, List.nil_append]
        exact hB true ⟨fun _ => Or.inl e, fun _ => rfl⟩
      · have e2 : ¬ K = 2 := fun q => hc (by rw [q]; rfl)
        repeat refine AW.s rfl ?_
        try dsimp only [List.set_cons_zero, List.set_cons_succ, Option.toList_some, Option.toList_none, List.cons_append, List.nil_append]
        refine AW.b rfl (fun hc => ?_) (fun hc => ?_)
        · have e : K = 4 := (nI_eq (b := 4) (by omega) (by decide)).mp hc
          repeat refine AW.s rfl ?_
          try dsimp only [List.set_cons_zero, List.set_cons_succ, Option.toList_some, Option.toList_none, List.cons_append, List.nil_append]
          refine AW.V k_11_211 ((c_MisVowel hV1 hV26 hx26)) rfl rfl rfl rfl rfl rfl (fun r1 m9 hq => ?_)
          obtain ⟨rfl, hm9⟩ := hq
          rw [hm9]
          try dsimp only [List.set_cons_zero, List.set_cons_succ, Option.toList_some, Option.toList_none, List.cons_append, List.nil_append]
          by_cases q : V.testBit x = true
          · rw [if_pos q]
            refine AW.b rfl (fun hc => ?_) (fun hc => ?_)
            · exact absurd hc (by decide)
            · iterate 2 refine AW.s rfl ?_
              try dsimp only [List.set_cons_zero, List.set_cons_succ, Option.toList_some, Option.toList_none, List.cons_append, List.nil_append]
              exact hB true ⟨fun _ => Or.inr ⟨e, q⟩, fun _ => rfl⟩
          · rw [if_neg q]
            refine AW.b rfl (fun hc => ?_) (fun hc => ?_)
            · refine AW.s rfl ?_
              try dsimp only [List.set_cons_zero, List.set_cons_succ, Option.toList_some, Option.toList_none, List.cons_append, List.nil_append]
              exact hB false ⟨fun z => (by cases z), fun z => z.elim (fun z => absurd z e2) (fun z => absurd z.2 q)⟩
            · exact absurd rfl hc
        · have e4 : ¬ K = 4 := fun q => hc (by rw [q]; rfl)
          refine AW.s rfl ?_
          try dsimp only [List.set_cons_zero, List.set_cons_succ, Option.toList_some, Option.toList_none, List.cons_append, List.nil_append]
          exact hB false ⟨fun z => (by cases z), fun z => z.elim (fun z => absurd z e2) (fun z => absurd z.1 e4)⟩
    repeat refine AW.s rfl ?_
    try dsimp only [List.set_cons_zero, List.set_cons_succ, Option.toList_some, Option.toList_none, List.cons_append, List.nil_append]
    refine AW.b rfl (fun hc => ?_) (fun hc => ?_)
    · have e : K = 5 := (nI_eq (b := 5) (by omega) (by decide)).mp hc
      repeat refine AW.s rfl ?_
      try dsimp only [List.set_cons_zero, List.set_cons_succ, Option.toList_some, Option.toList_none, List.cons_append, List.nil_append]
      rw [hz, show nI xs.length - 1 = nI (xs.length - 1) from pk_sub (b := 1) h1l, pk_sub (show i ≤ xs.length - 1 by omega)]
      refine AW.c rfl (vp_in_nI (by omega) (by decide)) ?_
      try dsimp only [List.set_cons_zero, List.set_cons_succ, Option.toList_some, Option.toList_none, List.cons_append, List.nil_append]
      have hx2 : xs[xs.length - 1 - i]? = some x := by
        unfold zT at hx
        rw [if_pos e, List.getElem?_reverse hlt] at hx
        exact hx
      rw [nI_clamp (by omega), show m1 (243 + 19) (xs.length - 1 - i) = nI x by rw [show m1 (243 + 19) = m 262 from h262]; exact hy.2 _ x hx2]
      refine AW.s rfl ?_
      try dsimp only [List.set_cons_zero, List.set_cons_succ, Option.toList_some, Option.toList_none, List.cons_append, List.nil_append]
      exact hA
    · have e : ¬ K = 5 := fun q => hc (by rw [q]; rfl)
      repeat refine AW.s rfl ?_
      try dsimp only [List.set_cons_zero, List.set_cons_succ, Option.toList_some, Option.toList_none, List.cons_append, List.nil_append]
      refine AW.c rfl (vp_in_nI (by omega) (by decide)) ?_
      try dsimp only [List.set_cons_zero, List.set_cons_succ, Option.toList_some, Option.toList_none, List.cons_append, List.nil_append]
      have hx2 : xs[i]? = some x := by
        unfold zT at hx
        rwa [if_neg e] at hx
      rw [nI_clamp (by omega), show m1 (243 + 19) i = nI x by rw [show m1 (243 + 19) = m 262 from h262]; exact hy.2 _ x hx2]
      exact hA
  · have : i = xs.length := by
      have : ¬ i < xs.length := fun q => hc ((nI_ltI (by omega) (by omega)).mpr q)
      omega
    subst this
    rw [List.take_of_length_le (by omega)] at hv
    have hOT : (zT K xs).flatMap (gT V K lt n) = oT V K lt n xs := rfl
    rw [show (zT K xs).take xs.length = zT K xs from List.take_of_length_le (by omega), hOT]
    rw [hOT] at hv
    have hol : (oT V K lt n xs).length ≤ 80 := by
      have := flat_len (V := V) (K := K) (lt := lt) (n := n) (zT K xs)
      rw [hOT] at this
      omega
    have hol1 : 1 ≤ (oT V K lt n xs).length := by
      have h9 : ∀ zs : List Nat, zs.length ≤ (zs.flatMap (gT V K lt n)).length := by
        intro zs; induction zs with
        | nil => simp
        | cons a r ih =>
          rw [List.flatMap_cons, List.length_append, List.length_cons]
          have : 1 ≤ (gT V K lt n a).length := by unfold gT; simp
          omega
      have := h9 (zT K xs)
      rw [hOT] at this
      omega
    have hend : ∀ (os : List Nat) (m2 : Mem), os.length ≤ 81 → FrT m m2 → RLn (m2 263) os → AW (GM l X (d + 1) M_X11_turn (fun r1 m' => r1 = none ∧ RTn m' (lim os) ∧ FrT m m')) 169 [vR 12 243, vI (nI r), vI (nI os.length), vI (nI K), vI (nI xs.length), vU, vU] [] m2 := by
      intro os m2 hos hf2 hv2
      have hcp : ∀ m3 : Mem, FrT m m3 → RLn (m3 263) os → os.length ≤ 40 → m3 243 36 = nI os.length → AW (GM l X (d + 1) M_X11_turn (fun r1 m' => r1 = none ∧ RTn m' (lim os) ∧ FrT m m')) 188 [vR 12 243, vI (nI r), vI (nI os.length), vI (nI K), vI (nI 0), vU, vU] [] m3 := by
        intro m3 hf3 hv3 h40o hz3
        refine AW.loop (pc := 188) (σ := Unit) os.length (fun i _ => [vR 12 243, vI (nI r), vI (nI os.length), vI (nI K), vI (nI i), vU, vU]) (fun i _ m4 => FrT m m4 ∧ m4 243 36 = nI os.length ∧ RLn (m4 263) os ∧ ∀ k x, k < i → os[k]? = some x → m4 262 k = nI x) (fun i _ m4 hi hm4 ih => ?_) 0 () m3 (Nat.zero_le _) ⟨hf3, hz3, hv3, fun k x hk => absurd hk (by omega)⟩
        obtain ⟨hf4, hz4, hv4, hw4⟩ := hm4
        repeat refine AW.s rfl ?_
        try dsimp only [List.set_cons_zero, List.set_cons_succ, Option.toList_some, Option.toList_none, List.cons_append, List.nil_append]
        rw [hz4]
        refine AW.b rfl (fun hc => ?_) (fun hc => ?_)
        · have hlt : i < os.length := (nI_ltI (by omega) (by omega)).mp hc
          obtain ⟨x, hx⟩ : ∃ x, os[i]? = some x := ⟨_, List.getElem?_eq_getElem hlt⟩
          repeat refine AW.s rfl ?_
          try dsimp only [List.set_cons_zero, List.set_cons_succ, Option.toList_some, Option.toList_none, List.cons_append, List.nil_append]
          refine AW.c rfl (vp_in_nI (by omega) (by decide)) ?_
          try dsimp only [List.set_cons_zero, List.set_cons_succ, Option.toList_some, Option.toList_none, List.cons_append, List.nil_append]
          rw [nI_clamp (by omega), show m4 (243 + 20) i = nI x from hv4 i x hx]
          refine AW.c rfl (⟨vp_in_nI (by omega) (by decide), fun q => absurd q (by decide)⟩) ?_
          try dsimp only [List.set_cons_zero, List.set_cons_succ, Option.toList_some, Option.toList_none, List.cons_append, List.nil_append]
          rw [nI_clamp (by omega)]
          repeat refine AW.u 188 rfl rfl ?_
          try dsimp only [List.set_cons_zero, List.set_cons_succ, Option.toList_some, Option.toList_none, List.cons_append, List.nil_append]
          rw [nI_1]
          refine ih () _ hlt ⟨hf4.tr ⟨fun a _ h2 _ => mUp_a h2, fun k _ => mUp_n (Or.inl (by decide))⟩, by rw [mUp_a (by decide)]; exact hz4, by rw [mUp_a (by decide)]; exact hv4, fun k y hk hky => ?_⟩
          by_cases e : k = i
          · subst e
            rw [hx] at hky
            cases hky
            exact mUp_s _ _ _ _
          · rw [mUp_n (Or.inr e)]; exact hw4 k y (by omega) hky
        · have : i = os.length := by
            have : ¬ i < os.length := fun q => hc ((nI_ltI (by omega) (by omega)).mpr q)
            omega
          subst this
          refine AW.rv rfl rfl ⟨rfl, ?_, hf4⟩
          unfold lim
          rw [if_pos h40o]
          exact ⟨hz4, fun k x hk => hw4 k x (List.getElem?_eq_some_iff.mp hk).1 hk⟩
      repeat refine AW.s rfl ?_
      try dsimp only [List.set_cons_zero, List.set_cons_succ, Option.toList_some, Option.toList_none, List.cons_append, List.nil_append]
      refine AW.b rfl (fun hc => ?_) (fun hc => ?_)
      · have hgt : 40 < os.length := (nI_ltI (a := 40) (by decide) (by omega)).mp hc
        repeat refine AW.u 188 rfl rfl ?_
        try dsimp only [List.set_cons_zero, List.set_cons_succ, Option.toList_some, Option.toList_none, List.cons_append, List.nil_append]
        repeat refine AW.s rfl ?_
        try dsimp only [List.set_cons_zero, List.set_cons_succ, Option.toList_some, Option.toList_none, List.cons_append, List.nil_append]
        rw [mUp_s]
        refine AW.b rfl (fun hc => ?_) (fun hc => ?_)
        · exact absurd hc (by decide)
        · refine AW.rv rfl rfl ⟨rfl, ?_, hf2.tr ⟨fun a h1 _ _ => mUp_a h1, fun k hk => mUp_n (Or.inr hk)⟩⟩
          unfold lim
          rw [if_neg (by omega)]
          exact mUp_s _ _ _ _
      · have hle : os.length ≤ 40 := by
          have : ¬ 40 < os.length := fun q => hc ((nI_ltI (a := 40) (by decide) (by omega)).mpr q)
          omega
        repeat refine AW.u 188 rfl rfl ?_
        try dsimp only [List.set_cons_zero, List.set_cons_succ, Option.toList_some, Option.toList_none, List.cons_append, List.nil_append]
        exact hcp _ (hf2.tr ⟨fun a h1 _ _ => mUp_a h1, fun k hk => mUp_n (Or.inr hk)⟩) (by rw [mUp_a (by decide)]; exact hv2) hle (mUp_s _ _ _ _)
    repeat refine AW.s rfl ?_
    try dsimp only [List.set_cons_zero, List.set_cons_succ, Option.toList_some, Option.toList_none, List.cons_append, List.nil_append]
    refine AW.b rfl (fun hc => ?_) (fun hc => ?_)
    · have e : K = 3 := (nI_eq (b := 3) (by omega) (by decide)).mp hc
      rw [if_pos e]
      obtain ⟨y0, hy0⟩ : ∃ y, (oT V K lt n xs)[0]? = some y := ⟨_, List.getElem?_eq_getElem (by omega)⟩
      have htk : (oT V K lt n xs).take 1 = [y0] := by
        cases hoo : oT V K lt n xs with
        | nil => rw [hoo] at hy0; cases hy0
        | cons a t => rw [hoo] at hy0; cases hy0; rfl
      repeat refine AW.s rfl ?_
      try dsimp only [List.set_cons_zero, List.set_cons_succ, Option.toList_some, Option.toList_none, List.cons_append, List.nil_append]
      refine AW.c rfl (vp_in_nI (n := 0) (by decide) (by decide)) ?_
      try dsimp only [List.set_cons_zero, List.set_cons_succ, Option.toList_some, Option.toList_none, List.cons_append, List.nil_append]
      rw [show (0 : Int32).toNatClampNeg = 0 from rfl, show m1 (243 + 20) 0 = nI y0 from hv 0 y0 hy0]
      refine AW.c rfl (⟨vp_in_nI (by omega) (by decide), fun q => absurd q (by decide)⟩) ?_
      try dsimp only [List.set_cons_zero, List.set_cons_succ, Option.toList_some, Option.toList_none, List.cons_append, List.nil_append]
      rw [nI_clamp (by omega)]
      refine AW.s rfl ?_
      try dsimp only [List.set_cons_zero, List.set_cons_succ, Option.toList_some, Option.toList_none, List.cons_append, List.nil_append]
      rw [nI_1, htk]
      refine AW.at (hend (oT V K lt n xs ++ [y0]) _ (by rw [List.length_append]; show _ + 1 ≤ 81; omega) (hf.tr ⟨fun a _ _ h3 => mUp_a h3, fun k _ => mUp_n (Or.inl (by decide))⟩) (by rw [mUp_row]; exact RLn_add hv)) rfl ?_ rfl rfl
      rw [List.length_append]
      rfl
    · have e : ¬ K = 3 := fun q => hc (by rw [q]; rfl)
      rw [if_neg e]
      exact hend _ m1 (by omega) hf hv
