/-- first, most, best: what is kept of ways looked at -/
abbrev KB : Type := Int32 × Int32 × Int32
def kbF (s : KB) (q : Int32 × Int32) : KB := if s.1 = 0 then (if s.2.1 < q.1 then (0, q.1, q.2) else s) else (0, q.1, q.2)
def kbOf (m : Mem) : KB := (m 67 3, m 67 4, m 67 5)
theorem c_keepBetter {l : Launch} {X : XT} {d : Nat} {w g : Int32} {m : Mem} : Meth l X d M_X1_keepBetter [vR 2 67, vI w, vI g] m (fun r m' => r = none ∧ kbOf m' = kbF (kbOf m) (w, g) ∧ (∀ a, a ≠ 67 → m' a = m a)) := by
  have hput : AW (GM l X d M_X1_keepBetter (fun r m' => r = none ∧ kbOf m' = (0, w, g) ∧ (∀ a, a ≠ 67 → m' a = m a))) 15 [vR 2 67, vI w, vI g] [] m := by
    repeat refine AW.s rfl ?_
    try dsimp only [List.set_cons_zero, List.set_cons_succ, Option.toList_some, Option.toList_none, List.cons_append, List.nil_append]
    refine AW.c rfl (Or.inl rfl) ?_
    try dsimp only [List.set_cons_zero, List.set_cons_succ, Option.toList_some, Option.toList_none, List.cons_append, List.nil_append]
    repeat refine AW.s rfl ?_
    try dsimp only [List.set_cons_zero, List.set_cons_succ, Option.toList_some, Option.toList_none, List.cons_append, List.nil_append]
    refine AW.rv rfl rfl ⟨rfl, ?_, fun a ha => by rw [mUp_a ha, mUp_a ha, mUp_a ha]⟩
    unfold kbOf
    rw [mUp_s, mUp_n (Or.inr (by decide)), mUp_n (Or.inr (by decide)), mUp_s, mUp_n (Or.inr (by decide)), mUp_s]
  refine E_X1_keepBetter (ls := [vR 2 67, vI w, vI g]) rfl rfl ?_
  have e0 : kbF (kbOf m) (w, g) = if m 67 3 = 0 then (if m 67 4 < w then (0, w, g) else kbOf m) else (0, w, g) := rfl
  rw [e0]
  repeat refine AW.s rfl ?_
  try dsimp only [List.set_cons_zero, List.set_cons_succ, Option.toList_some, Option.toList_none, List.cons_append, List.nil_append]
  refine AW.b rfl (fun hc => ?_) (fun hc => ?_)
  · rw [if_pos hc]
    repeat refine AW.s rfl ?_
    try dsimp only [List.set_cons_zero, List.set_cons_succ, Option.toList_some, Option.toList_none, List.cons_append, List.nil_append]
    refine AW.b rfl (fun hc => ?_) (fun hc => ?_)
    · rw [if_pos hc]
      exact hput
    · rw [if_neg hc]
      exact AW.rv rfl rfl ⟨rfl, rfl, fun _ _ => rfl⟩
  · rw [if_neg hc]
    exact hput
/-- all ways that go on from a beginning, k rules still to come -/
def cmpW (n : Nat) (k : Nat) (π : List Nat) : List (List Nat) := match k with
  | 0 => [π]
  | k + 1 => (List.range n).flatMap (fun r => if r ∈ π then [] else cmpW n k (π ++ [r]))
def digW (π : List Nat) : Nat := π.foldl (fun a r => a * 10 + r + 1) 0
/-- what a way is worth, and its digits -/
def wayV (σ : Sg) (τ : Nat → (Nat → Int32) → Int32) (π : List Nat) : Int32 × Int32 := (worthW σ π (σ 0 1) (saidS σ π) τ (σ 0 1), nI (digW π))
theorem digW_app (π : List Nat) (r : Nat) : digW (π ++ [r]) = digW π * 10 + r + 1 := by
  unfold digW
  rw [List.foldl_append]
  rfl
/-- what goOn may change at a depth -/
def FrO (T dp : Nat) (m m' : Mem) : Prop := (∀ a, a ≠ 67 → a ≠ 69 → a ≠ 70 → a ≠ 72 → a ≠ T + 4 → (a < 68 + 5 + 18 * (dp + 1) ∨ 198 < a) → m' a = m a) ∧ ∀ i, i < dp → m' 70 i = m 70 i
theorem FrO.tr {T dp : Nat} {m m' m'' : Mem} (h1 : FrO T dp m m') (h2 : FrO T dp m' m'') : FrO T dp m m'' := ⟨fun a x y z u v w => by rw [h2.1 a x y z u v w, h1.1 a x y z u v w], fun i hi => by rw [h2.2 i hi, h1.2 i hi]⟩
set_option maxRecDepth 2000 in
theorem c_goOn {l : Launch} {X : XT} {σ : Sg} (hσ : WF σ) {T : Nat} {en : Nat → Nat} {τ : Nat → (Nat → Int32) → Int32} (hT : 199 ≤ T) : ∀ (k d : Nat) (π : List Nat) (u : Int32) (m : Mem), 4 + k ≤ d → π.length + k = σ 0 2 → (∀ r ∈ π, r < σ 0 2) → RepS m 1 σ → TOK m T en → (∀ p F, p < 3 → tellV m T en p F = τ p F) → RepR m 69 π → isBits u (fun r => r ∈ π) → RepYs m (68 + 5 + 18 * π.length) (σ 0 1) (saidS σ π) →
    Meth l X d M_X1_goOn [vR 2 67, vR 8 1, vR 10 T, vI (nI π.length), vI u, vI (nI (digW π))] m (fun r m' => r = none ∧ kbOf m' = ((cmpW (σ 0 2) k π).map (wayV σ τ)).foldl kbF (kbOf m) ∧ FrO T π.length m m') := by
  intro k
  have h6 : σ 0 2 ≤ 6 := hσ.2.2.1
  have h8 : σ 0 1 ≤ 8 := hσ.2.1
  induction k with
  | zero =>
    intro d π u m hd hlen hπ hs ht hτ hρ hu hY
    obtain ⟨d, rfl⟩ : ∃ e, d = e + 1 := ⟨d - 1, by omega⟩
    have hpl : π.length = σ 0 2 := by omega
    refine E_X1_goOn (ls := [vR 2 67, vR 8 1, vR 10 T, vI (nI π.length), vI u, vI (nI (digW π)), vU]) rfl rfl ?_
    repeat refine AW.s rfl ?_
    try dsimp only [List.set_cons_zero, List.set_cons_succ, Option.toList_some, Option.toList_none, List.cons_append, List.nil_append]
    rw [show m 1 8 = nI (σ 0 2) from hs.2.2.1]
    refine AW.b rfl (fun hc => ?_) (fun hc => ?_)
    · exact absurd ((nI_ltI (by omega) (by omega)).mp hc) (by omega)
    · repeat refine AW.s rfl ?_
      try dsimp only [List.set_cons_zero, List.set_cons_succ, Option.toList_some, Option.toList_none, List.cons_append, List.nil_append]
      refine AW.c rfl (vp_in_nI (by omega) (by decide)) ?_
      try dsimp only [List.set_cons_zero, List.set_cons_succ, Option.toList_some, Option.toList_none, List.cons_append, List.nil_append]
      rw [nI_clamp (by omega)]
      have hfw : ∀ w, w < σ 0 1 → WFo (saidS σ π w) := fun w hw => saidS_wf hσ ⟨by omega, hπ⟩ hw
      refine AW.V k_1_53 ((c_worth (n := σ 0 1) (rw := π) (ρ := 69) (by omega) hs hσ ⟨by omega, hπ⟩ hρ ht (Nat.le_refl _) hY hfw (by omega) (by omega) (by omega) (by omega) (by omega) (by omega) (by omega))) rfl rfl rfl rfl rfl rfl (fun r1 m2 hq => ?_)
      obtain ⟨rfl, hf⟩ := hq
      repeat refine AW.s rfl ?_
      try dsimp only [List.set_cons_zero, List.set_cons_succ, Option.toList_some, Option.toList_none, List.cons_append, List.nil_append]
      refine AW.V k_1_57 (c_keepBetter) rfl rfl rfl rfl rfl rfl (fun r1 m3 hq => ?_)
      obtain ⟨rfl, hkb, hf3⟩ := hq
      have hkm : kbOf m2 = kbOf m := by unfold kbOf; rw [hf 67 (by omega) (by omega)]
      refine AW.rv rfl rfl ⟨rfl, ?_, ⟨fun a h1 h2 h3 h4 h5 _ => by rw [hf3 a h1]; exact hf a h4 h5, fun i _ => by rw [hf3 70 (by decide)]; rw [hf 70 (by omega) (by omega)]⟩⟩
      rw [hkb, hkm]
      have hww : worthW σ π (σ 0 1) (saidS σ π) (tellV m T en) (σ 0 1) = worthW σ π (σ 0 1) (saidS σ π) τ (σ 0 1) := by
        have : ∀ w, worthW σ π (σ 0 1) (saidS σ π) (tellV m T en) w = worthW σ π (σ 0 1) (saidS σ π) τ w := by
          intro w
          induction w with
          | zero => rfl
          | succ w ih =>
            cases hfw : saidS σ π w with
            | none => rw [worthW_none hfw, worthW_none hfw, ih]
            | some xs => rw [worthW_some hfw, worthW_some hfw, ih, hτ 0 _ (by decide), hτ 1 _ (by decide), hτ 2 _ (by decide)]
        exact this _
      rw [hww]
      rfl
  | succ k ih =>
    intro d π u m hd hlen hπ hs ht hτ hρ hu hY
    obtain ⟨d, rfl⟩ : ∃ e, d = e + 1 := ⟨d - 1, by omega⟩
    have hpl : π.length < σ 0 2 := by omega
    have hfw : ∀ w, w < σ 0 1 → WFo (saidS σ π w) := fun w hw => saidS_wf hσ ⟨by omega, hπ⟩ hw
    refine E_X1_goOn (ls := [vR 2 67, vR 8 1, vR 10 T, vI (nI π.length), vI u, vI (nI (digW π)), vU]) rfl rfl ?_
    repeat refine AW.s rfl ?_
    try dsimp only [List.set_cons_zero, List.set_cons_succ, Option.toList_some, Option.toList_none, List.cons_append, List.nil_append]
    rw [show m 1 8 = nI (σ 0 2) from hs.2.2.1]
    refine AW.b rfl (fun hc => ?_) (fun hc => ?_)
    · repeat refine AW.s rfl ?_
      try dsimp only [List.set_cons_zero, List.set_cons_succ, Option.toList_some, Option.toList_none, List.cons_append, List.nil_append]
      refine AW.b rfl (fun hc => ?_) (fun hc => ?_)
      · repeat refine AW.u 43 rfl rfl ?_
        try dsimp only [List.set_cons_zero, List.set_cons_succ, Option.toList_some, Option.toList_none, List.cons_append, List.nil_append]
        refine AW.loop (pc := 43) (σ := Unit) (σ 0 2) (fun i _ => [vR 2 67, vR 8 1, vR 10 T, vI (nI π.length), vI u, vI (nI (digW π)), vI (nI i)]) (fun i _ m1 => kbOf m1 = (((List.range i).flatMap (fun r => if r ∈ π then [] else cmpW (σ 0 2) k (π ++ [r]))).map (wayV σ τ)).foldl kbF (kbOf m) ∧ FrO T π.length m m1) (fun i _ m1 hi hm1 ihl => ?_) 0 () m (Nat.zero_le _) ⟨rfl, ⟨fun _ _ _ _ _ _ _ => rfl, fun _ _ => rfl⟩⟩
        obtain ⟨hkb, hfr⟩ := hm1
        have hs1 : RepS m1 1 σ := hs.fr hσ.2.1 (fun a h1 h2 => hfr.1 a (by omega) (by omega) (by omega) (by omega) (by omega) (by omega))
        repeat refine AW.s rfl ?_
        try dsimp only [List.set_cons_zero, List.set_cons_succ, Option.toList_some, Option.toList_none, List.cons_append, List.nil_append]
        rw [show m1 1 8 = nI (σ 0 2) from hs1.2.2.1]
        refine AW.b rfl (fun hc => ?_) (fun hc => ?_)
        · have hlt : i < σ 0 2 := (nI_ltI (by omega) (by omega)).mp hc
          have hbit := hu.getU (k := i) (by omega)
          have hrs : (List.range (i + 1)).flatMap (fun r => if r ∈ π then [] else cmpW (σ 0 2) k (π ++ [r])) = (List.range i).flatMap (fun r => if r ∈ π then [] else cmpW (σ 0 2) k (π ++ [r])) ++ (if i ∈ π then [] else cmpW (σ 0 2) k (π ++ [i])) := by
            rw [List.range_succ, List.flatMap_append]
            simp
          repeat refine AW.s rfl ?_
          try dsimp only [List.set_cons_zero, List.set_cons_succ, Option.toList_some, Option.toList_none, List.cons_append, List.nil_append]
          by_cases hin : i ∈ π
          · rw [hbit.1 hin]
            rw [if_pos hin, List.append_nil] at hrs
            refine AW.b rfl (fun hc => ?_) (fun hc => ?_)
            · exact absurd hc (by decide)
            · repeat refine AW.u 43 rfl rfl ?_
              try dsimp only [List.set_cons_zero, List.set_cons_succ, Option.toList_some, Option.toList_none, List.cons_append, List.nil_append]
              rw [nI_1]
              exact ihl () _ hlt ⟨by rw [hrs]; exact hkb, hfr⟩
          · rw [hbit.2 hin]
            rw [if_neg hin] at hrs
            refine AW.b rfl (fun hc => ?_) (fun hc => ?_)
            · repeat refine AW.s rfl ?_
              try dsimp only [List.set_cons_zero, List.set_cons_succ, Option.toList_some, Option.toList_none, List.cons_append, List.nil_append]
              have hρ1 : RepR (mUp m1 69 1 (nI π.length)) 69 π := by
                refine ⟨mUp_s _ _ _ _, fun j x hj => ?_⟩
                rw [mUp_a (by decide), hfr.2 j (List.getElem?_eq_some_iff.mp hj).1]
                exact hρ.2 j x hj
              refine AW.V k_1_61 ((c_push (r := i) hρ1 (by omega))) rfl rfl rfl rfl rfl rfl (fun r1 m2 hq => ?_)
              obtain ⟨rfl, hρ2, hf2⟩ := hq
              have hf2' : ∀ a, a ≠ 69 → a ≠ 70 → m2 a = m1 a := fun a h1 h2 => by rw [hf2 a h1 h2, mUp_a h1]
              repeat refine AW.s rfl ?_
              try dsimp only [List.set_cons_zero, List.set_cons_succ, Option.toList_some, Option.toList_none, List.cons_append, List.nil_append]
              rw [nI_1]
              refine AW.c rfl (vp_in_nI (by omega) (by decide)) ?_
              try dsimp only [List.set_cons_zero, List.set_cons_succ, Option.toList_some, Option.toList_none, List.cons_append, List.nil_append]
              rw [nI_clamp (by omega)]
              repeat refine AW.s rfl ?_
              try dsimp only [List.set_cons_zero, List.set_cons_succ, Option.toList_some, Option.toList_none, List.cons_append, List.nil_append]
              refine AW.c rfl (vp_in_nI (by omega) (by decide)) ?_
              try dsimp only [List.set_cons_zero, List.set_cons_succ, Option.toList_some, Option.toList_none, List.cons_append, List.nil_append]
              rw [nI_clamp (by omega)]
              repeat refine AW.s rfl ?_
              try dsimp only [List.set_cons_zero, List.set_cons_succ, Option.toList_some, Option.toList_none, List.cons_append, List.nil_append]
              have hs2 : RepS m2 1 σ := hs1.fr hσ.2.1 (fun a h1 h2 => hf2' a (by omega) (by omega))
              have hY2 : RepYs m2 (68 + 5 + 18 * π.length) (σ 0 1) (saidS σ π) := hY.fr h8 (fun a h1 h2 => by rw [hf2' a (by omega) (by omega)]; exact hfr.1 a (by omega) (by omega) (by omega) (by omega) (by omega) (by omega))
              refine AW.V k_1_65 ((c_becomeTurned (by omega) hs2 hσ hlt h8 hY2 hfw (by omega) (by omega))) rfl rfl rfl rfl rfl rfl (fun r1 m3 hq => ?_)
              obtain ⟨rfl, hY3, hf3⟩ := hq
              repeat refine AW.s rfl ?_
              try dsimp only [List.set_cons_zero, List.set_cons_succ, Option.toList_some, Option.toList_none, List.cons_append, List.nil_append]
              rw [nI_1, show nI (digW π) * 10 + nI i + 1 = nI (digW (π ++ [i])) by
                rw [digW_app, show nI (digW π) * 10 = nI (digW π * 10) from pk_mul _ 10, nI_add, nI_1]]
              have hsaid : (fun w => turnS σ i (saidS σ π w)) = saidS σ (π ++ [i]) := by
                funext w
                show _ = sayR σ (π ++ [i]) _
                rw [sayR_app]
                rfl
              rw [hsaid] at hY3
              have hlen1 : (π ++ [i]).length = π.length + 1 := by simp
              rw [← hlen1] at hY3 ⊢
              have hu3 : isBits (u ||| (1 <<< (nI i &&& 31))) (fun r => r ∈ π ++ [i]) := (hu.or (k := i) (by omega)).to (fun r => by simp)
              have hs3 : RepS m3 1 σ := hs2.fr hσ.2.1 (fun a h1 h2 => hf3 a (by omega))
              have hr3 : ∀ a, a = T + 1 ∨ a = T + 2 ∨ a = T + 3 ∨ a = T + 5 → m3 a = m a := by
                intro a ha
                rw [hf3 a (by omega), hf2' a (by omega) (by omega), hfr.1 a (by omega) (by omega) (by omega) (by omega) (by omega) (by omega)]
              have ht3 : TOK m3 T en := ht.fr (hr3 _ (by omega)) (hr3 _ (by omega)) (hr3 _ (by omega)) (hr3 _ (by omega))
              have hτ3 : ∀ p F, p < 3 → tellV m3 T en p F = τ p F := by
                intro p F hp
                rw [← hτ p F hp]
                unfold tellV
                rw [tval_eq ht hp (hr3 _ (by omega)) (hr3 _ (by omega)) (hr3 _ (by omega)) (fun _ _ => rfl)]
              refine AW.V k_1_44 ((ih d (π ++ [i]) _ m3 (by omega) (by rw [hlen1]; omega) (fun r hr => by rcases List.mem_append.mp hr with q | q; exact hπ r q; rw [List.mem_singleton.mp q]; exact hlt) hs3 ht3 hτ3 (hρ2.fr (hf3 69 (by omega)) (hf3 70 (by omega))) hu3 hY3)) rfl rfl rfl rfl rfl rfl (fun r1 m4 hq => ?_)
              obtain ⟨rfl, hkb4, hfr4⟩ := hq
              repeat refine AW.u 43 rfl rfl ?_
              try dsimp only [List.set_cons_zero, List.set_cons_succ, Option.toList_some, Option.toList_none, List.cons_append, List.nil_append]
              rw [nI_1]
              refine ihl () _ hlt ⟨?_, ⟨fun a h1 h2 h3 h4 h5 h6 => ?_, fun j hj => ?_⟩⟩
              · rw [hkb4, hrs, List.map_append, List.foldl_append, ← hkb]
                have : kbOf m3 = kbOf m1 := by unfold kbOf; rw [hf3 67 (by omega), hf2' 67 (by decide) (by decide)]
                rw [this]
              · rw [hfr4.1 a h1 h2 h3 h4 h5 (by rw [hlen1]; omega), hf3 a (by omega), hf2' a h2 h3]
                exact hfr.1 a h1 h2 h3 h4 h5 h6
              · rw [hfr4.2 j (by rw [hlen1]; omega), hf3 70 (by omega)]
                have hpx : (π ++ [i])[j]? = π[j]? := List.getElem?_append_left hj
                obtain ⟨x, hx⟩ : ∃ x, π[j]? = some x := ⟨_, List.getElem?_eq_getElem hj⟩
                rw [hρ2.2 j x (by rw [hpx]; exact hx), hρ.2 j x hx]
            · exact absurd rfl hc
        · have : i = σ 0 2 := by
            have : ¬ i < σ 0 2 := fun q => hc ((nI_ltI (by omega) (by omega)).mpr q)
            omega
          subst this
          exact AW.rv rfl rfl ⟨rfl, hkb, hfr⟩
      · exact absurd (nI_lt (b := 6) (by omega) (by decide)) hc
    · exact absurd (nI_lt hpl (by omega)) hc
