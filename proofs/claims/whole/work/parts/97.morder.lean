-- ===== the next row by numbers; order; letter =====
/-- one more than the last place whose number is below the next one's, of the first f; 0: none -/
def nxI (π : List Nat) (f : Nat) : Nat := match f with
  | 0 => 0
  | f + 1 => if π.getD (f + 1) 0 < π.getD f 0 then nxI π f else f + 1
def nxJ (π : List Nat) (i f : Nat) : Nat := match f with
  | 0 => 0
  | f + 1 => if π.getD (f + 1) 0 < π.getD i 0 then nxJ π i f else f + 1
def swp (π : List Nat) (i j : Nat) : List Nat := (π.set i (π.getD j 0)).set j (π.getD i 0)
def revF (f : Nat) (π : List Nat) (a b : Nat) : List Nat := match f with
  | 0 => π
  | f + 1 => if a < b then revF f (swp π a b) (a + 1) (b - 1) else π
def nxtP (π : List Nat) : Option (List Nat) := match nxI π (π.length - 1) with
  | 0 => none
  | i + 1 => some (revF 8 (swp π i (nxJ π i (π.length - 1))) (i + 1) (π.length - 1))
def chkL (L : List (List Nat)) : Bool := match L with
  | [] => false
  | a :: r => match r with
    | [] => (nxtP a).isNone
    | b :: _ => (nxtP a == some b) && chkL r
theorem chk_all : ∀ n, n < 7 → chkL (cmpW n n []) = true ∧ (cmpW n n []).head? = some (List.range n) ∧ (cmpW n n []).all (fun π => π.length == n && π.all (fun x => decide (x < n))) = true := by decide +kernel
theorem chk_at {L : List (List Nat)} (h : chkL L = true) : ∀ (k : Nat) (π : List Nat), L[k]? = some π → nxtP π = L[k + 1]? := by
  induction L with
  | nil => intro k π hk; cases hk
  | cons a r ih =>
    cases r with
    | nil =>
      intro k π hk
      cases k with
      | zero =>
        cases hk
        have h : (nxtP a).isNone = true := h
        rw [Option.isNone_iff_eq_none.mp h]
        rfl
      | succ k => cases hk
    | cons b s =>
      have h : ((nxtP a == some b) && chkL (b :: s)) = true := h
      rw [Bool.and_eq_true, beq_iff_eq] at h
      intro k π hk
      cases k with
      | zero => cases hk; exact h.1
      | succ k => exact ih h.2 k π hk
theorem i32_m1 (x : Int32) : x + -1 = x - 1 := (Int32.sub_eq_add_neg _ _).symm
theorem nI_m {n : Nat} : nI (n + 1) + -1 = nI n := by rw [i32_m1]; exact nI_pred n
theorem swp_len {π : List Nat} {i j : Nat} : (swp π i j).length = π.length := by unfold swp; rw [List.length_set, List.length_set]
theorem swp_rl {g : Nat → Int32} {π : List Nat} {i j : Nat} (h : RLn g π) (hi : i < π.length) (hj : j < π.length) : RLn (upd (upd g i (g j)) j (g i)) (swp π i j) := by
  intro k x hk
  have ei := h i _ (List.getElem?_eq_getElem hi)
  have ej := h j _ (List.getElem?_eq_getElem hj)
  have gi : π.getD i 0 = π[i] := by rw [List.getD_eq_getElem?_getD, List.getElem?_eq_getElem hi]; rfl
  have gj : π.getD j 0 = π[j] := by rw [List.getD_eq_getElem?_getD, List.getElem?_eq_getElem hj]; rfl
  unfold swp at hk
  rw [gi, gj, List.getElem?_set, List.getElem?_set, List.length_set] at hk
  unfold upd
  by_cases e1 : k = j
  · subst e1
    rw [if_pos rfl, if_pos hj] at hk
    cases hk
    rw [if_pos rfl]
    exact ei
  · rw [if_neg (fun q => e1 q.symm)] at hk
    rw [if_neg e1]
    by_cases e2 : k = i
    · subst e2
      rw [if_pos rfl, if_pos hi] at hk
      cases hk
      rw [if_pos rfl]
      exact ej
    · rw [if_neg (fun q => e2 q.symm)] at hk
      rw [if_neg e2]
      exact h k x hk
theorem mUp_2 {m : Mem} {h i j : Nat} {x y : Int32} : mUp (mUp m h i x) h j y h = upd (upd (m h) i x) j y := by
  unfold mUp
  rw [mSr_s, mSr_s]
theorem revF_len (f : Nat) : ∀ (π : List Nat) (a b : Nat), (revF f π a b).length = π.length := by
  induction f with
  | zero => intro π a b; rfl
  | succ f ih =>
    intro π a b
    unfold revF
    split
    · rw [ih, swp_len]
    · rfl
section
variable {l : Launch} {X : XT} {d : Nat} {m : Mem} {Ω : OM}
theorem c_Mnext {π : List Nat} {n : Nat} (hd : 1 ≤ d) (hn : π.length = n) (h7 : n < 7) (hr : RLn (m 250) π) (hx : ∀ x ∈ π, x < 100) : Meth l X d M_X11_next_ [vR 12 243, vI (nI n)] m (fun r m' => (nxtP π = none ∧ r = some (vI 0) ∧ m' = m) ∨ ∃ π', nxtP π = some π' ∧ r = some (vI 1) ∧ RLn (m' 250) π' ∧ ∀ a, a ≠ 250 → m' a = m a) := by
  obtain ⟨d, rfl⟩ : ∃ e, d = e + 1 := ⟨d - 1, by omega⟩
  have at_ : ∀ k, k < n → m 250 k = nI (π.getD k 0) ∧ π.getD k 0 < 100 := fun k hk => by
    have hk2 : k < π.length := by omega
    rw [List.getD_eq_getElem?_getD, List.getElem?_eq_getElem hk2]
    exact ⟨hr k _ (List.getElem?_eq_getElem hk2), hx _ (List.getElem_mem hk2)⟩
  -- the place is found: i
  have found : ∀ i, i + 1 < n → nxI π (n - 1) = i + 1 → AW (GM l X (d + 1) M_X11_next_ (fun r m' => (nxtP π = none ∧ r = some (vI 0) ∧ m' = m) ∨ ∃ π', nxtP π = some π' ∧ r = some (vI 1) ∧ RLn (m' 250) π' ∧ ∀ a, a ≠ 250 → m' a = m a)) 31 [vR 12 243, vI (nI n), vI (nI i), vU, vU, vU] [] m := by
    intro i hi hnx
    have e0 : nxtP π = some (revF 8 (swp π i (nxJ π i (n - 1))) (i + 1) (n - 1)) := by
      unfold nxtP
      rw [hn, hnx]
    have hle : ¬ π.getD (i + 1) 0 < π.getD i 0 := by
      have key : ∀ f, nxI π f = i + 1 → ¬ π.getD (i + 1) 0 < π.getD i 0 := by
        intro f
        induction f with
        | zero => intro h; cases h
        | succ f ih =>
          intro h
          unfold nxI at h
          by_cases q : π.getD (f + 1) 0 < π.getD f 0
          · rw [if_pos q] at h; exact ih h
          · rw [if_neg q] at h
            have : f = i := by omega
            subst this
            exact q
      exact key _ hnx
    repeat refine AW.s rfl ?_
    try dsimp only [List.set_cons_zero, List.set_cons_succ, Option.toList_some, Option.toList_none, List.cons_append, List.nil_append]
    refine AW.b rfl (fun hc => ?_) (fun hc => ?_)
    · exact absurd hc (nI_pos (by omega))
    · repeat refine AW.u 41 rfl rfl ?_
      try dsimp only [List.set_cons_zero, List.set_cons_succ, Option.toList_some, Option.toList_none, List.cons_append, List.nil_append]
      rw [show nI n - 1 = nI (n - 1) from pk_sub (b := 1) (by omega)]
      refine AW.loop (pc := 41) (σ := Unit) (n - 1 - (i + 1)) (fun k _ => [vR 12 243, vI (nI n), vI (nI i), vI (nI (n - 1 - k)), vU, vU]) (fun k _ m1 => m1 = m ∧ nxJ π i (n - 1) = nxJ π i (n - 1 - k)) (fun k _ m1 hk hm1 ih => ?_) 0 () m (Nat.zero_le _) ⟨rfl, rfl⟩
      obtain ⟨rfl, hJ⟩ := hm1
      obtain ⟨j, hj⟩ : ∃ j, n - 1 - k = j + 1 := ⟨n - 1 - k - 1, by omega⟩
      rw [hj] at hJ
      have hJ : nxJ π i (n - 1) = if π.getD (j + 1) 0 < π.getD i 0 then nxJ π i j else j + 1 := hJ
      have aj := at_ (j + 1) (by omega)
      have ai := at_ i (by omega)
      rw [hj]
      repeat refine AW.s rfl ?_
      try dsimp only [List.set_cons_zero, List.set_cons_succ, Option.toList_some, Option.toList_none, List.cons_append, List.nil_append]
      refine AW.c rfl (vp_in_nI (by omega) (by decide)) ?_
      try dsimp only [List.set_cons_zero, List.set_cons_succ, Option.toList_some, Option.toList_none, List.cons_append, List.nil_append]
      rw [nI_clamp (by omega), show m1 (243 + 7) (j + 1) = nI (π.getD (j + 1) 0) from aj.1]
      repeat refine AW.s rfl ?_
      try dsimp only [List.set_cons_zero, List.set_cons_succ, Option.toList_some, Option.toList_none, List.cons_append, List.nil_append]
      refine AW.c rfl (vp_in_nI (by omega) (by decide)) ?_
      try dsimp only [List.set_cons_zero, List.set_cons_succ, Option.toList_some, Option.toList_none, List.cons_append, List.nil_append]
      rw [nI_clamp (by omega), show m1 (243 + 7) i = nI (π.getD i 0) from ai.1]
      refine AW.b rfl (fun hc => ?_) (fun hc => ?_)
      · have q : π.getD (j + 1) 0 < π.getD i 0 := (nI_ltI (by omega) (by omega)).mp hc
        rw [if_pos q] at hJ
        have hji : j + 1 ≠ i + 1 := fun e => by
          have : j = i := by omega
          subst this
          exact hle q
        repeat refine AW.u 41 rfl rfl ?_
        try dsimp only [List.set_cons_zero, List.set_cons_succ, Option.toList_some, Option.toList_none, List.cons_append, List.nil_append]
        rw [nI_m, show j = n - 1 - (k + 1) by omega]
        exact ih () m1 (by omega) ⟨rfl, by rw [hJ, show n - 1 - (k + 1) = j by omega]⟩
      · have q : ¬ π.getD (j + 1) 0 < π.getD i 0 := fun z => hc (nI_lt z (by omega))
        rw [if_neg q] at hJ
        rw [hJ] at e0
        have hji : i < j + 1 := by omega
        repeat refine AW.s rfl ?_
        try dsimp only [List.set_cons_zero, List.set_cons_succ, Option.toList_some, Option.toList_none, List.cons_append, List.nil_append]
        refine AW.V k_11_290 ((c_Mswap (a := i) (b := j + 1) (by omega) (by omega))) rfl rfl rfl rfl rfl rfl (fun r1 m2 hq => ?_)
        obtain ⟨rfl, hm2⟩ := hq
        have r2 : RLn (m2 250) (swp π i (j + 1)) := by
          rw [hm2, mUp_2]
          exact swp_rl hr (by omega) (by omega)
        have f2 : ∀ a, a ≠ 250 → m2 a = m1 a := fun a ha => by rw [hm2, mUp_a ha, mUp_a ha]
        repeat refine AW.u 78 rfl rfl ?_
        try dsimp only [List.set_cons_zero, List.set_cons_succ, Option.toList_some, Option.toList_none, List.cons_append, List.nil_append]
        rw [nI_1, show nI n - 1 = nI (n - 1) from pk_sub (b := 1) (by omega)]
        refine AW.loop (pc := 78) (σ := List Nat) 8 (fun u _ => [vR 12 243, vI (nI n), vI (nI i), vI (nI (j + 1)), vI (nI (i + 1 + u)), vI (nI (n - 1 - u))]) (fun u ρ m3 => RLn (m3 250) ρ ∧ ρ.length = n ∧ (∀ a, a ≠ 250 → m3 a = m1 a) ∧ (u = 0 ∨ i + 1 + u ≤ n - 1 - u + 1) ∧ revF 8 (swp π i (j + 1)) (i + 1) (n - 1) = revF (8 - u) ρ (i + 1 + u) (n - 1 - u)) (fun u ρ m3 hu hm3 ih3 => ?_) 0 (swp π i (j + 1)) m2 (Nat.zero_le _) ⟨r2, by rw [swp_len]; exact hn, f2, Or.inl rfl, rfl⟩
        obtain ⟨g1, g2, g3, g4, g5⟩ := hm3
        have hun : u ≤ n - 1 := by omega
        repeat refine AW.s rfl ?_
        try dsimp only [List.set_cons_zero, List.set_cons_succ, Option.toList_some, Option.toList_none, List.cons_append, List.nil_append]
        refine AW.b rfl (fun hc => ?_) (fun hc => ?_)
        · have hlt : i + 1 + u < n - 1 - u := (nI_ltI (by omega) (by omega)).mp hc
          obtain ⟨f, hf⟩ : ∃ f, 8 - u = f + 1 := ⟨8 - u - 1, by omega⟩
          rw [hf] at g5
          have g5 : revF 8 (swp π i (j + 1)) (i + 1) (n - 1) = if i + 1 + u < n - 1 - u then revF f (swp ρ (i + 1 + u) (n - 1 - u)) (i + 1 + u + 1) (n - 1 - u - 1) else ρ := g5
          rw [if_pos hlt] at g5
          repeat refine AW.s rfl ?_
          try dsimp only [List.set_cons_zero, List.set_cons_succ, Option.toList_some, Option.toList_none, List.cons_append, List.nil_append]
          refine AW.V k_11_290 ((c_Mswap (a := i + 1 + u) (b := n - 1 - u) (by omega) (by omega))) rfl rfl rfl rfl rfl rfl (fun r1 m4 hq => ?_)
          obtain ⟨rfl, hm4⟩ := hq
          have r4 : RLn (m4 250) (swp ρ (i + 1 + u) (n - 1 - u)) := by
            rw [hm4, mUp_2]
            exact swp_rl g1 (by omega) (by omega)
          repeat refine AW.u 78 rfl rfl ?_
          try dsimp only [List.set_cons_zero, List.set_cons_succ, Option.toList_some, Option.toList_none, List.cons_append, List.nil_append]
          obtain ⟨v, hv⟩ : ∃ v, n - 1 - u = v + 1 := ⟨n - 1 - u - 1, by omega⟩
          rw [nI_1, hv, nI_m, show v = n - 1 - (u + 1) by omega, show i + 1 + u + 1 = i + 1 + (u + 1) by omega]
          refine ih3 _ m4 (by omega) ⟨r4, by rw [swp_len]; exact g2, fun a ha => by rw [hm4, mUp_a ha, mUp_a ha]; exact g3 a ha, Or.inr (by omega), ?_⟩
          rw [g5, show 8 - (u + 1) = f by omega, show i + 1 + u + 1 = i + 1 + (u + 1) by omega, show n - 1 - u - 1 = n - 1 - (u + 1) by omega]
        · have hge : ¬ i + 1 + u < n - 1 - u := fun z => hc (nI_lt z (by omega))
          have g6 : revF 8 (swp π i (j + 1)) (i + 1) (n - 1) = ρ := by
            rw [g5]
            cases hz : 8 - u with
            | zero => rfl
            | succ f =>
              show (if i + 1 + u < n - 1 - u then revF f (swp ρ (i + 1 + u) (n - 1 - u)) (i + 1 + u + 1) (n - 1 - u - 1) else ρ) = ρ
              rw [if_neg hge]
          repeat refine AW.s rfl ?_
          try dsimp only [List.set_cons_zero, List.set_cons_succ, Option.toList_some, Option.toList_none, List.cons_append, List.nil_append]
          exact AW.ri rfl rfl rfl (Or.inr ⟨ρ, by rw [e0, g6], rfl, g1, g3⟩)
  refine E_X11_next_ (ls := [vR 12 243, vI (nI n), vU, vU, vU, vU]) rfl rfl ?_
  repeat refine AW.u 4 rfl rfl ?_
  try dsimp only [List.set_cons_zero, List.set_cons_succ, Option.toList_some, Option.toList_none, List.cons_append, List.nil_append]
  by_cases hn1 : n ≤ 1
  · have e0 : nxtP π = none := by
      unfold nxtP
      rw [hn, show n - 1 = 0 by omega]
      rfl
    have hneg : nI n - 2 < 0 := by
      rcases (show n = 0 ∨ n = 1 by omega) with e | e <;> rw [e] <;> decide
    repeat refine AW.s rfl ?_
    try dsimp only [List.set_cons_zero, List.set_cons_succ, Option.toList_some, Option.toList_none, List.cons_append, List.nil_append]
    refine AW.b rfl (fun hc => ?_) (fun hc => ?_)
    · repeat refine AW.s rfl ?_
      try dsimp only [List.set_cons_zero, List.set_cons_succ, Option.toList_some, Option.toList_none, List.cons_append, List.nil_append]
      refine AW.b rfl (fun hc => ?_) (fun hc => ?_)
      · repeat refine AW.s rfl ?_
        try dsimp only [List.set_cons_zero, List.set_cons_succ, Option.toList_some, Option.toList_none, List.cons_append, List.nil_append]
        exact AW.ri rfl rfl rfl (Or.inl ⟨e0, rfl, rfl⟩)
      · exact absurd hneg hc
    · exact absurd hneg hc
  · rw [show nI n - 2 = nI (n - 2) from pk_sub (b := 2) (by omega)]
    refine AW.wf (pc := 4) (σ := Int32) (fun v => (v + 1).toNatClampNeg) (fun v => [vR 12 243, vI (nI n), vI v, vU, vU, vU]) (fun v m1 => m1 = m ∧ ∃ f, f ≤ n - 1 ∧ v = nI f - 1 ∧ nxI π (n - 1) = nxI π f) (fun v m1 hm1 ih => ?_) (nI (n - 2)) m ⟨rfl, n - 1, Nat.le_refl _, by rw [show nI (n - 1) - 1 = nI (n - 1 - 1) from pk_sub (b := 1) (by omega)]; rfl, rfl⟩
    obtain ⟨rfl, f, hf, rfl, hI⟩ := hm1
    cases f with
    | zero =>
      have hI : nxI π (n - 1) = 0 := hI
      have e0 : nxtP π = none := by
        unfold nxtP
        rw [hn, hI]
      repeat refine AW.s rfl ?_
      try dsimp only [List.set_cons_zero, List.set_cons_succ, Option.toList_some, Option.toList_none, List.cons_append, List.nil_append]
      refine AW.b rfl (fun hc => ?_) (fun hc => ?_)
      · repeat refine AW.s rfl ?_
        try dsimp only [List.set_cons_zero, List.set_cons_succ, Option.toList_some, Option.toList_none, List.cons_append, List.nil_append]
        refine AW.b rfl (fun hc => ?_) (fun hc => ?_)
        · repeat refine AW.s rfl ?_
          try dsimp only [List.set_cons_zero, List.set_cons_succ, Option.toList_some, Option.toList_none, List.cons_append, List.nil_append]
          exact AW.ri rfl rfl rfl (Or.inl ⟨e0, rfl, rfl⟩)
        · exact absurd (show nI 0 - 1 < 0 by decide) hc
      · exact absurd (show nI 0 - 1 < 0 by decide) hc
    | succ f =>
      rw [show nI (f + 1) - 1 = nI f from pk_sub (b := 1) (by omega)]
      have hI : nxI π (n - 1) = if π.getD (f + 1) 0 < π.getD f 0 then nxI π f else f + 1 := hI
      have af := at_ f (by omega)
      have af1 := at_ (f + 1) (by omega)
      repeat refine AW.s rfl ?_
      try dsimp only [List.set_cons_zero, List.set_cons_succ, Option.toList_some, Option.toList_none, List.cons_append, List.nil_append]
      refine AW.b rfl (fun hc => ?_) (fun hc => ?_)
      · exact absurd hc (nI_pos (by omega))
      · repeat refine AW.s rfl ?_
        try dsimp only [List.set_cons_zero, List.set_cons_succ, Option.toList_some, Option.toList_none, List.cons_append, List.nil_append]
        refine AW.c rfl (vp_in_nI (by omega) (by decide)) ?_
        try dsimp only [List.set_cons_zero, List.set_cons_succ, Option.toList_some, Option.toList_none, List.cons_append, List.nil_append]
        rw [nI_clamp (by omega), show m1 (243 + 7) f = nI (π.getD f 0) from af.1]
        repeat refine AW.s rfl ?_
        try dsimp only [List.set_cons_zero, List.set_cons_succ, Option.toList_some, Option.toList_none, List.cons_append, List.nil_append]
        rw [nI_1]
        refine AW.c rfl (vp_in_nI (by omega) (by decide)) ?_
        try dsimp only [List.set_cons_zero, List.set_cons_succ, Option.toList_some, Option.toList_none, List.cons_append, List.nil_append]
        rw [nI_clamp (by omega), show m1 (243 + 7) (f + 1) = nI (π.getD (f + 1) 0) from af1.1]
        refine AW.b rfl (fun hc => ?_) (fun hc => ?_)
        · have q : π.getD (f + 1) 0 < π.getD f 0 := (nI_ltI (by omega) (by omega)).mp hc
          rw [if_pos q] at hI
          repeat refine AW.u 4 rfl rfl ?_
          try dsimp only [List.set_cons_zero, List.set_cons_succ, Option.toList_some, Option.toList_none, List.cons_append, List.nil_append]
          rw [i32_m1]
          refine ih (nI f - 1) m1 ?_ ⟨rfl, f, by omega, rfl, hI⟩
          rw [show nI f - 1 + 1 = nI f by exact Int32.sub_add_cancel _ _, show nI (f + 1) - 1 + 1 = nI (f + 1) by exact Int32.sub_add_cancel _ _, nI_clamp (by omega), nI_clamp (by omega)]
          omega
        · have q : ¬ π.getD (f + 1) 0 < π.getD f 0 := fun z => hc (nI_lt z (by omega))
          rw [if_neg q] at hI
          exact found f (by omega) hI
theorem digW_take {π : List Nat} {k x : Nat} (h : π[k]? = some x) : digW (π.take (k + 1)) = digW (π.take k) * 10 + x + 1 := by
  rw [List.take_add_one, h]
  exact digW_app _ _
theorem digW_b (π : List Nat) : (∀ x ∈ π, x < 6) → digW π < 10 ^ π.length := by
  have key : ∀ (π : List Nat) (a n : Nat), a < 10 ^ n → (∀ x ∈ π, x < 6) → π.foldl (fun a r => a * 10 + r + 1) a < 10 ^ (n + π.length) := by
    intro π
    induction π with
    | nil => intro a n ha _; exact ha
    | cons y r ih =>
      intro a n ha hx
      have hy := hx y List.mem_cons_self
      have := ih (a * 10 + y + 1) (n + 1) (by rw [Nat.pow_succ]; omega) (fun x hx2 => hx x (List.mem_cons_of_mem _ hx2))
      rw [List.length_cons, show n + (r.length + 1) = n + 1 + r.length by omega]
      exact this
  intro hx
  have := key π 0 0 (by decide) hx
  rwa [Nat.zero_add] at this
theorem kb_some {L : List (Int32 × Int32)} (h : L ≠ []) : ∀ s : KB, (L.foldl kbF s).1 = 0 := by
  have key : ∀ (L : List (Int32 × Int32)) (s : KB), s.1 = 0 → (L.foldl kbF s).1 = 0 := by
    intro L
    induction L with
    | nil => intro s h; exact h
    | cons q r ih =>
      intro s hs
      refine ih (kbF s q) ?_
      unfold kbF
      rw [if_pos hs]
      split
      · rfl
      · exact hs
  intro s
  cases L with
  | nil => exact absurd rfl h
  | cons q r =>
    refine key r (kbF s q) ?_
    unfold kbF
    split
    · split
      · rfl
      · rename_i h1 _; exact h1
    · rfl
theorem M_order {b : Int32} (hd : 7 ≤ d) (hW : WO Ω) (hI : InvM m Ω) : Meth l X d M_X11_order [vR 12 243, vI b] m (fun r m' => r = some (vI (orderF Ω b)) ∧ InvM m' Ω ∧ KM m m') := by
  obtain ⟨d, rfl⟩ : ∃ e, d = e + 1 := ⟨d - 1, by omega⟩
  have h6 := hW.1.2.2.1
  refine E_X11_order (ls := [vR 12 243, vI b, vU, vU, vU, vU, vU]) rfl rfl ?_
  repeat refine AW.s rfl ?_
  try dsimp only [List.set_cons_zero, List.set_cons_succ, Option.toList_some, Option.toList_none, List.cons_append, List.nil_append]
  refine AW.S k_11_7 (c_in0) rfl rfl rfl rfl (fun r1 m9 hq => ?_)
  obtain ⟨rfl, hm9⟩ := hq
  rw [hm9]
  try dsimp only [List.set_cons_zero, List.set_cons_succ, Option.toList_some, Option.toList_none, List.cons_append, List.nil_append]
  by_cases q1 : wB b 1 = 1
  · have e0 : orderF Ω b = if b = 0 then (ordS Ω).2.1 else (ordS Ω).2.2 := if_pos q1
    rw [q1, e0]
    refine AW.b rfl (fun hc => ?_) (fun hc => ?_)
    · exact absurd hc (by decide)
    · repeat refine AW.s rfl ?_
      try dsimp only [List.set_cons_zero, List.set_cons_succ, Option.toList_some, Option.toList_none, List.cons_append, List.nil_append]
      refine AW.V k_11_284 ((c_MlayBy' hI)) rfl rfl rfl rfl rfl rfl (fun r1 m2 hq => ?_)
      obtain ⟨rfl, hl2, h29, h250⟩ := hq
      have hR2 : m2 243 5 = nI ((oG Ω) 0 2) := by rw [hl2.2.2.2 5 (by omega)]; exact hI.1.2.2.1
      generalize hn : (oG Ω) 0 2 = n at *
      have hn7 : n < 7 := by omega
      obtain ⟨k1, k2, k3⟩ := chk_all n hn7
      have hS : ordS Ω = ((cmpW n n []).map (wayV (oG Ω) (oV Ω ((oG Ω) 0 4)))).foldl kbF (1, 0, 0) := by unfold ordS; rw [hn]
      have hne : cmpW n n [] ≠ [] := cmpW_ne n hn7
      generalize hLL : cmpW n n [] = L at *
      have hmem : ∀ π ∈ L, π.length = n ∧ ∀ x ∈ π, x < n := fun π hπ => by
        have := List.all_eq_true.mp k3 π hπ
        rw [Bool.and_eq_true, beq_iff_eq, List.all_eq_true] at this
        exact ⟨this.1, fun x hx => of_decide_eq_true (this.2 x hx)⟩
      have hwf : ∀ π ∈ L, WFr (oG Ω) π := fun π hπ => ⟨by rw [(hmem π hπ).1]; omega, fun r hr => by rw [hn]; exact (hmem π hπ).2 r hr⟩
      repeat refine AW.u 27 rfl rfl ?_
      try dsimp only [List.set_cons_zero, List.set_cons_succ, Option.toList_some, Option.toList_none, List.cons_append, List.nil_append]
      rw [hR2]
      refine AW.loop (pc := 27) (σ := Unit) n (fun k _ => [vR 12 243, vI b, vI (nI k), vU, vU, vU, vU]) (fun k _ m3 => LD m m3 ∧ m3 243 9 = nI n ∧ RLn (m3 250) (List.range k)) (fun k _ m3 hk hm3 ih => ?_) 0 () _ (Nat.zero_le _) ⟨hl2.r (fun a x1 _ => mUp_a x1) (fun k hk => mUp_n (Or.inr hk)), mUp_s _ _ _ _, fun k x hk => by simp at hk⟩
      obtain ⟨g1, g2, g3⟩ := hm3
      repeat refine AW.s rfl ?_
      try dsimp only [List.set_cons_zero, List.set_cons_succ, Option.toList_some, Option.toList_none, List.cons_append, List.nil_append]
      rw [show m3 243 5 = nI n by rw [g1.2.2.2 5 (by omega), hI.1.2.2.1, hn]]
      refine AW.b rfl (fun hc => ?_) (fun hc => ?_)
      · have hlk : k < n := (nI_ltI (by omega) (by omega)).mp hc
        repeat refine AW.s rfl ?_
        try dsimp only [List.set_cons_zero, List.set_cons_succ, Option.toList_some, Option.toList_none, List.cons_append, List.nil_append]
        refine AW.c rfl (⟨vp_in_nI (by omega) (by decide), fun z => absurd z (by decide)⟩) ?_
        try dsimp only [List.set_cons_zero, List.set_cons_succ, Option.toList_some, Option.toList_none, List.cons_append, List.nil_append]
        rw [nI_clamp (by omega)]
        repeat refine AW.u 27 rfl rfl ?_
        try dsimp only [List.set_cons_zero, List.set_cons_succ, Option.toList_some, Option.toList_none, List.cons_append, List.nil_append]
        rw [nI_1]
        refine ih () _ hlk ⟨g1.r (fun a x1 x2 => mUp_a x2) (fun k hk => by rw [mUp_a (by decide)]), by rw [mUp_a (by decide)]; exact g2, fun j y hj => ?_⟩
        have hjl := (List.getElem?_eq_some_iff.mp hj).1
        rw [List.length_range] at hjl
        rw [List.getElem?_range hjl] at hj
        cases hj
        by_cases e : j = k
        · subst e; exact mUp_s _ _ _ _
        · rw [mUp_n (Or.inr e)]
          exact g3 j j (List.getElem?_range (by omega))
      · have : k = n := by
          have : ¬ k < n := fun q => hc ((nI_ltI (by omega) (by omega)).mpr q)
          omega
        subst this
        repeat refine AW.u 55 rfl rfl ?_
        try dsimp only [List.set_cons_zero, List.set_cons_succ, Option.toList_some, Option.toList_none, List.cons_append, List.nil_append]
        -- best and most, when i ways are through
        have hst : ∀ (i : Nat) (bst mst : Int32) (mr : Bool) (m4 : Mem), i ≤ L.length → LD m m4 → (mr = true ↔ i < L.length) → (i = 0 → bst = -1 ∧ mst = 0) → (0 < i → ¬ bst = -1 ∧ ((L.take i).map (wayV (oG Ω) (oV Ω ((oG Ω) 0 4)))).foldl kbF (1, 0, 0) = (0, mst, bst)) → (∀ π, L[i]? = some π → m4 243 9 = nI k ∧ RLn (m4 250) π) → AW (GM l X (d + 1) M_X11_order (fun r m' => r = some (vI (if b = 0 then (ordS Ω).2.1 else (ordS Ω).2.2)) ∧ InvM m' Ω ∧ KM m m')) 55 [vR 12 243, vI b, vI bst, vI mst, vI (if mr then 1 else 0), vU, vU] [] m4 := by
          intro i bst mst mr m4 hi h1 h2 h3 h4 h5
          refine AW.loop (pc := 55) (σ := Int32 × Int32 × Bool) L.length (fun i st => [vR 12 243, vI b, vI st.1, vI st.2.1, vI (if st.2.2 then 1 else 0), vU, vU]) (fun i st m4 => LD m m4 ∧ (st.2.2 = true ↔ i < L.length) ∧ (i = 0 → st.1 = -1 ∧ st.2.1 = 0) ∧ (0 < i → ¬ st.1 = -1 ∧ ((L.take i).map (wayV (oG Ω) (oV Ω ((oG Ω) 0 4)))).foldl kbF (1, 0, 0) = (0, st.2.1, st.1)) ∧ ∀ π, L[i]? = some π → m4 243 9 = nI k ∧ RLn (m4 250) π) (fun i st m4 hi hm4 ih4 => ?_) i (bst, mst, mr) m4 hi ⟨h1, h2, h3, h4, h5⟩
          obtain ⟨bst, mst, mr⟩ := st
          obtain ⟨h1, h2, h3, h4, h5⟩ := hm4
          have h2 : mr = true ↔ i < L.length := h2
          have h3 : i = 0 → bst = -1 ∧ mst = 0 := h3
          have h4 : 0 < i → ¬ bst = -1 ∧ ((L.take i).map (wayV (oG Ω) (oV Ω ((oG Ω) 0 4)))).foldl kbF (1, 0, 0) = (0, mst, bst) := h4
          repeat refine AW.s rfl ?_
          try dsimp only [List.set_cons_zero, List.set_cons_succ, Option.toList_some, Option.toList_none, List.cons_append, List.nil_append]
          cases mr with
          | false =>
            have hiL : i = L.length := by
              have : ¬ i < L.length := fun q => by cases h2.mpr q
              omega
            have hpos : 0 < i := by
              rcases Nat.eq_zero_or_pos i with q | q
              · exact absurd (List.length_eq_zero_iff.mp (by omega)) hne
              · exact q
            obtain ⟨-, h42⟩ := h4 hpos
            rw [List.take_of_length_le (by omega), ← hS] at h42
            rw [h42]
            refine AW.b rfl (fun hc => ?_) (fun hc => ?_)
            · repeat refine AW.s rfl ?_
              try dsimp only [List.set_cons_zero, List.set_cons_succ, Option.toList_some, Option.toList_none, List.cons_append, List.nil_append]
              refine AW.V k_11_287 ((c_MlayBack' hW hI h1)) rfl rfl rfl rfl rfl rfl (fun r1 m5 hq => ?_)
              obtain ⟨rfl, hI5, hK5⟩ := hq
              repeat refine AW.s rfl ?_
              try dsimp only [List.set_cons_zero, List.set_cons_succ, Option.toList_some, Option.toList_none, List.cons_append, List.nil_append]
              refine AW.b rfl (fun hc => ?_) (fun hc => ?_)
              · rw [if_pos hc]
                repeat refine AW.s rfl ?_
                try dsimp only [List.set_cons_zero, List.set_cons_succ, Option.toList_some, Option.toList_none, List.cons_append, List.nil_append]
                exact AW.ri rfl rfl rfl ⟨rfl, hI5, hK5⟩
              · rw [if_neg hc]
                repeat refine AW.s rfl ?_
                try dsimp only [List.set_cons_zero, List.set_cons_succ, Option.toList_some, Option.toList_none, List.cons_append, List.nil_append]
                exact AW.ri rfl rfl rfl ⟨rfl, hI5, hK5⟩
            · exact absurd rfl hc
          | true =>
            have hiL := h2.mp rfl
            obtain ⟨π, hπ⟩ : ∃ π, L[i]? = some π := ⟨_, List.getElem?_eq_getElem hiL⟩
            obtain ⟨p1, p2⟩ := h5 π hπ
            have hπm := List.mem_of_getElem? hπ
            obtain ⟨p3, p4⟩ := hmem π hπm
            have hdb := digW_b π (fun x hx => by have := p4 x hx; omega)
            have hdb2 : digW π < 2 ^ 31 := Nat.lt_of_lt_of_le hdb (Nat.le_trans (Nat.pow_le_pow_right (by decide) (show π.length ≤ 6 by omega)) (by decide))
            have hfold : ((L.take (i + 1)).map (wayV (oG Ω) (oV Ω ((oG Ω) 0 4)))).foldl kbF (1, 0, 0) = kbF (((L.take i).map (wayV (oG Ω) (oV Ω ((oG Ω) 0 4)))).foldl kbF (1, 0, 0)) (wthO Ω ((oG Ω) 0 4) π, nI (digW π)) := by
              rw [List.take_add_one, hπ, List.map_append, List.foldl_append]
              rfl
            refine AW.b rfl (fun hc => ?_) (fun hc => ?_)
            · exact absurd (show (1 : Int32) = 0 from hc) (by decide)
            · repeat refine AW.s rfl ?_
              try dsimp only [List.set_cons_zero, List.set_cons_succ, Option.toList_some, Option.toList_none, List.cons_append, List.nil_append]
              refine AW.V k_11_272 ((M_worthR (by omega) hW hI h1 (hwf π hπm) (by rw [p1, p3]) p2)) rfl rfl rfl rfl rfl rfl (fun r1 m5 hq => ?_)
              obtain ⟨rfl, l5, l59, l50⟩ := hq
              -- behind the choice: next
              have fin : ∀ (b2 s2 : Int32) (y z : AV), ¬ b2 = -1 → ((L.take (i + 1)).map (wayV (oG Ω) (oV Ω ((oG Ω) 0 4)))).foldl kbF (1, 0, 0) = (0, s2, b2) → AW (GM l X (d + 1) M_X11_order (fun r m' => r = some (vI (if b = 0 then (ordS Ω).2.1 else (ordS Ω).2.2)) ∧ InvM m' Ω ∧ KM m m')) 115 [vR 12 243, vI b, vI b2, vI s2, vI 1, y, z] [] m5 := by
                intro b2 s2 y z hb2 hk2
                have h59 : m5 243 9 = nI k := by rw [l59]; exact p1
                repeat refine AW.s rfl ?_
                try dsimp only [List.set_cons_zero, List.set_cons_succ, Option.toList_some, Option.toList_none, List.cons_append, List.nil_append]
                rw [h59]
                refine AW.V k_11_294 ((c_Mnext (π := π) (by omega) p3 hn7 (by rw [l50]; exact p2) (fun x hx => by have := p4 x hx; omega))) rfl rfl rfl rfl rfl rfl (fun r1 m6 hq => ?_)
                rw [chk_at k1 i π hπ] at hq
                rcases hq with ⟨hno, rfl, hm6⟩ | ⟨π', hyes, rfl, r6, f6⟩
                · rw [hm6]
                  repeat refine AW.u 55 rfl rfl ?_
                  try dsimp only [List.set_cons_zero, List.set_cons_succ, Option.toList_some, Option.toList_none, List.cons_append, List.nil_append]
                  refine AW.fg 5 ?_
                  refine AW.fg 6 ?_
                  try dsimp only [List.set_cons_zero, List.set_cons_succ, Option.toList_some, Option.toList_none, List.cons_append, List.nil_append]
                  have hend : ¬ i + 1 < L.length := fun q => by rw [List.getElem?_eq_getElem q] at hno; cases hno
                  exact ih4 (b2, s2, false) m5 hiL ⟨l5, ⟨fun q => (by cases q), fun q => absurd q hend⟩, fun q => absurd q (by omega), fun _ => ⟨hb2, hk2⟩, fun π2 h => by rw [hno] at h; cases h⟩
                · repeat refine AW.u 55 rfl rfl ?_
                  try dsimp only [List.set_cons_zero, List.set_cons_succ, Option.toList_some, Option.toList_none, List.cons_append, List.nil_append]
                  refine AW.fg 5 ?_
                  refine AW.fg 6 ?_
                  try dsimp only [List.set_cons_zero, List.set_cons_succ, Option.toList_some, Option.toList_none, List.cons_append, List.nil_append]
                  have hlt2 := (List.getElem?_eq_some_iff.mp hyes).1
                  exact ih4 (b2, s2, true) m6 hiL ⟨l5.r (fun a _ x2 => f6 a x2) (fun k _ => by rw [f6 243 (by decide)]), ⟨fun _ => hlt2, fun _ => rfl⟩, fun q => absurd q (by omega), fun _ => ⟨hb2, hk2⟩, fun π2 h => by rw [hyes] at h; cases h; exact ⟨by rw [f6 243 (by decide)]; exact h59, r6⟩⟩
              -- the digits of a better one
              have take : ((L.take (i + 1)).map (wayV (oG Ω) (oV Ω ((oG Ω) 0 4)))).foldl kbF (1, 0, 0) = (0, wthO Ω ((oG Ω) 0 4) π, nI (digW π)) → AW (GM l X (d + 1) M_X11_order (fun r m' => r = some (vI (if b = 0 then (ordS Ω).2.1 else (ordS Ω).2.2)) ∧ InvM m' Ω ∧ KM m m')) 85 [vR 12 243, vI b, vI 0, vI (wthO Ω ((oG Ω) 0 4) π), vI 1, vI (wthO Ω ((oG Ω) 0 4) π), vI 0] [] m5 := by
                intro hk2
                refine AW.loop (pc := 85) (σ := Unit) k (fun u _ => [vR 12 243, vI b, vI (nI (digW (π.take u))), vI (wthO Ω ((oG Ω) 0 4) π), vI 1, vI (wthO Ω ((oG Ω) 0 4) π), vI (nI u)]) (fun u _ m6 => m6 = m5) (fun u _ m6 hu hm6 ih5 => ?_) 0 () m5 (Nat.zero_le _) rfl
                subst hm6
                repeat refine AW.s rfl ?_
                try dsimp only [List.set_cons_zero, List.set_cons_succ, Option.toList_some, Option.toList_none, List.cons_append, List.nil_append]
                rw [show m6 243 9 = nI k by rw [l59]; exact p1]
                refine AW.b rfl (fun hc => ?_) (fun hc => ?_)
                · have hlu : u < k := (nI_ltI (by omega) (by omega)).mp hc
                  obtain ⟨x, hx⟩ : ∃ x, π[u]? = some x := ⟨_, List.getElem?_eq_getElem (by omega)⟩
                  repeat refine AW.s rfl ?_
                  try dsimp only [List.set_cons_zero, List.set_cons_succ, Option.toList_some, Option.toList_none, List.cons_append, List.nil_append]
                  refine AW.c rfl (vp_in_nI (by omega) (by decide)) ?_
                  try dsimp only [List.set_cons_zero, List.set_cons_succ, Option.toList_some, Option.toList_none, List.cons_append, List.nil_append]
                  rw [nI_clamp (by omega), show m6 (243 + 7) u = nI x by rw [show m6 (243 + 7) = m4 250 from l50]; exact p2 u x hx]
                  repeat refine AW.u 85 rfl rfl ?_
                  try dsimp only [List.set_cons_zero, List.set_cons_succ, Option.toList_some, Option.toList_none, List.cons_append, List.nil_append]
                  rw [show (10 : Int32) * nI (digW (π.take u)) = nI (digW (π.take u) * 10) by rw [Nat.mul_comm]; exact pk_mul 10 _, nI_add, nI_1, nI_1, ← digW_take hx]
                  exact ih5 () m6 hlu rfl
                · have : u = k := by
                    have : ¬ u < k := fun q => hc ((nI_ltI (by omega) (by omega)).mpr q)
                    omega
                  subst this
                  rw [List.take_of_length_le (by omega)]
                  exact fin _ _ _ _ (nI_m1 hdb2) hk2
              repeat refine AW.s rfl ?_
              try dsimp only [List.set_cons_zero, List.set_cons_succ, Option.toList_some, Option.toList_none, List.cons_append, List.nil_append]
              refine AW.b rfl (fun hc => ?_) (fun hc => ?_)
              · have hb : bst = -1 := hc
                have hi0 : i = 0 := by
                  rcases Nat.eq_zero_or_pos i with q | q
                  · exact q
                  · exact absurd hb (h4 q).1
                repeat refine AW.u 85 rfl rfl ?_
                try dsimp only [List.set_cons_zero, List.set_cons_succ, Option.toList_some, Option.toList_none, List.cons_append, List.nil_append]
                refine take ?_
                rw [hfold, hi0]
                rfl
              · have hb : ¬ bst = -1 := hc
                have hip : 0 < i := by
                  rcases Nat.eq_zero_or_pos i with q | q
                  · exact absurd (h3 q).1 hb
                  · exact q
                obtain ⟨-, h42⟩ := h4 hip
                rw [h42] at hfold
                have hfold : ((L.take (i + 1)).map (wayV (oG Ω) (oV Ω ((oG Ω) 0 4)))).foldl kbF (1, 0, 0) = if mst < wthO Ω ((oG Ω) 0 4) π then (0, wthO Ω ((oG Ω) 0 4) π, nI (digW π)) else (0, mst, bst) := hfold
                repeat refine AW.s rfl ?_
                try dsimp only [List.set_cons_zero, List.set_cons_succ, Option.toList_some, Option.toList_none, List.cons_append, List.nil_append]
                refine AW.b rfl (fun hc => ?_) (fun hc => ?_)
                · rw [if_pos hc] at hfold
                  repeat refine AW.u 85 rfl rfl ?_
                  try dsimp only [List.set_cons_zero, List.set_cons_succ, Option.toList_some, Option.toList_none, List.cons_append, List.nil_append]
                  exact take hfold
                · rw [if_neg hc] at hfold
                  exact fin _ _ _ _ hb hfold
        have hL0 : 0 < L.length := by
          rcases Nat.eq_zero_or_pos L.length with q | q
          · exact absurd (List.length_eq_zero_iff.mp q) hne
          · exact q
        exact hst 0 (-1) 0 true m3 (Nat.zero_le _) g1 ⟨fun _ => hL0, fun _ => rfl⟩ (fun _ => ⟨rfl, rfl⟩) (fun q => absurd q (by omega)) (fun π hπ => by
          have e : L.head? = some π := by rw [List.head?_eq_getElem?]; exact hπ
          rw [k2] at e
          cases e
          exact ⟨g2, g3⟩)
  · have e0 : orderF Ω b = -100000 := if_neg q1
    rw [wB_0 q1, e0]
    refine AW.b rfl (fun hc => ?_) (fun hc => ?_)
    · repeat refine AW.s rfl ?_
      try dsimp only [List.set_cons_zero, List.set_cons_succ, Option.toList_some, Option.toList_none, List.cons_append, List.nil_append]
      exact AW.ri rfl rfl rfl ⟨rfl, hI, KM.rf⟩
    · exact absurd rfl hc
theorem ltS_ne {r i : Nat} (h : 0 < i) (h26 : i ≤ 26) : ¬ (ltS Ω r i).1 = -1 := by
  induction i with
  | zero => omega
  | succ i ih =>
    rw [ltS_s]
    split
    · exact nI_m1 (by omega)
    · rename_i q
      split
      · exact nI_m1 (by omega)
      · exact q
theorem M_letter {a b : Int32} (hd : 7 ≤ d) (hW : WO Ω) (hI : InvM m Ω) : Meth l X d M_X11_letter [vR 12 243, vI a, vI b] m (fun r m' => r = some (vI (letterF Ω a b)) ∧ FrM m m') := by
  obtain ⟨d, rfl⟩ : ∃ e, d = e + 1 := ⟨d - 1, by omega⟩
  have h2 := hW.1.2.2.1
  have hbad : letterF Ω a b = -100000 → AW (GM l X (d + 1) M_X11_letter (fun r m' => r = some (vI (letterF Ω a b)) ∧ FrM m m')) 17 [vR 12 243, vI a, vI b, vU, vU, vU, vU, vU] [] m := by
    intro e0
    rw [e0]
    repeat refine AW.s rfl ?_
    try dsimp only [List.set_cons_zero, List.set_cons_succ, Option.toList_some, Option.toList_none, List.cons_append, List.nil_append]
    exact AW.ri rfl rfl rfl ⟨rfl, FrM.rf⟩
  refine E_X11_letter (ls := [vR 12 243, vI a, vI b, vU, vU, vU, vU, vU]) rfl rfl ?_
  repeat refine AW.s rfl ?_
  try dsimp only [List.set_cons_zero, List.set_cons_succ, Option.toList_some, Option.toList_none, List.cons_append, List.nil_append]
  refine AW.V k_11_46 ((c_Mrule (by omega) hI.1 hW.1)) rfl rfl rfl rfl rfl rfl (fun r1 m8 hq => ?_)
  obtain ⟨rfl, hm8⟩ := hq
  rw [hm8]
  try dsimp only [List.set_cons_zero, List.set_cons_succ, Option.toList_some, Option.toList_none, List.cons_append, List.nil_append]
  by_cases q2 : hB a ((oG Ω) 0 2) = 1
  · rw [q2]
    refine AW.b rfl (fun hc => ?_) (fun hc => ?_)
    · exact absurd hc (by decide)
    · repeat refine AW.s rfl ?_
      try dsimp only [List.set_cons_zero, List.set_cons_succ, Option.toList_some, Option.toList_none, List.cons_append, List.nil_append]
      refine AW.S k_11_7 (c_in0) rfl rfl rfl rfl (fun r1 m9 hq => ?_)
      obtain ⟨rfl, hm9⟩ := hq
      rw [hm9]
      try dsimp only [List.set_cons_zero, List.set_cons_succ, Option.toList_some, Option.toList_none, List.cons_append, List.nil_append]
      by_cases q1 : wB b 1 = 1
      · rw [q1]
        obtain ⟨r, hr, rfl⟩ := (hB_1 (by omega)).mp q2
        have e0 : letterF Ω (nI r) b = if b = 0 then (ltS Ω r 26).1 else (ltS Ω r 26).2 := by unfold letterF; rw [if_pos q1, if_pos q2, nI_clamp (by omega)]
        rw [e0]
        refine AW.b rfl (fun hc => ?_) (fun hc => ?_)
        · exact absurd hc (by decide)
        · repeat refine AW.s rfl ?_
          try dsimp only [List.set_cons_zero, List.set_cons_succ, Option.toList_some, Option.toList_none, List.cons_append, List.nil_append]
          refine AW.c rfl (vp_in_nI (by omega) (by decide)) ?_
          try dsimp only [List.set_cons_zero, List.set_cons_succ, Option.toList_some, Option.toList_none, List.cons_append, List.nil_append]
          rw [nI_clamp (by omega)]
          repeat refine AW.u 37 rfl rfl ?_
          try dsimp only [List.set_cons_zero, List.set_cons_succ, Option.toList_some, Option.toList_none, List.cons_append, List.nil_append]
          refine AW.loop (pc := 37) (σ := Unit) 26 (fun i _ => [vR 12 243, vI (nI r), vI b, vI (m (243 + 5) r), vI (if i = 0 then 0 else (ltS Ω r i).1), vI (ltS Ω r i).2, vI (nI i), vU]) (fun i _ m1 => ∃ c, FrM (mUp m 248 r c) m1) (fun i _ m1 hi hm1 ih => ?_) 0 () m (Nat.zero_le _) ⟨m 248 r, fun a _ => ?_, fun k _ => by rw [mUp_a (by decide)]⟩
          · obtain ⟨c0, hf⟩ := hm1
            repeat refine AW.s rfl ?_
            try dsimp only [List.set_cons_zero, List.set_cons_succ, Option.toList_some, Option.toList_none, List.cons_append, List.nil_append]
            refine AW.b rfl (fun hc => ?_) (fun hc => ?_)
            · have hlt : i < 26 := (nI_ltI (b := 26) (by omega) (by decide)).mp hc
              repeat refine AW.s rfl ?_
              try dsimp only [List.set_cons_zero, List.set_cons_succ, Option.toList_some, Option.toList_none, List.cons_append, List.nil_append]
              refine AW.c rfl (⟨vp_in_nI (by omega) (by decide), fun z => absurd z (by decide)⟩) ?_
              try dsimp only [List.set_cons_zero, List.set_cons_succ, Option.toList_some, Option.toList_none, List.cons_append, List.nil_append]
              rw [nI_clamp (by omega)]
              have f1 : FrM (mUp m 248 r (nI i)) (mUp m1 (243 + 5) r (nI i)) := by
                refine ⟨fun a ha => ?_, fun k hk => by rw [mUp_a (by decide), mUp_a (by decide), hf.2 k hk, mUp_a (by decide)]⟩
                by_cases e : a = 248
                · subst e
                  funext k
                  by_cases e2 : k = r
                  · subst e2; rw [mUp_s, mUp_s]
                  · rw [mUp_n (Or.inr e2), mUp_n (Or.inr e2), congrFun (hf.1 248 (by omega)) k, mUp_n (Or.inr e2)]
                · rw [mUp_a e, mUp_a e, hf.1 a ha, mUp_a e]
              have hIa : InvM (mUp m 248 r (nI i)) (uG Ω (sU (oG Ω) 4 r i)) := hI.g (hI.1.u4 (i := r) (v := i)) (fun a x1 x2 => mUp_a (by omega)) (fun k hk => by rw [mUp_a (by decide)])
              have hWa := hW.u4 (r := r) hlt
              have hIb := hIa.fr f1
              have hro : rowL (oG (uG Ω (sU (oG Ω) 4 r i))) = rowL (oG Ω) := rowL_o (by decide) (by decide)
              have hlw : (oG (uG Ω (sU (oG Ω) 4 r i))) 0 4 = (oG Ω) 0 4 := show sU (oG Ω) 4 r i 0 4 = _ from sU_o (by decide)
              repeat refine AW.s rfl ?_
              try dsimp only [List.set_cons_zero, List.set_cons_succ, Option.toList_some, Option.toList_none, List.cons_append, List.nil_append]
              refine AW.V k_11_272 ((M_worthNow (by omega) hWa hIb)) rfl rfl rfl rfl rfl rfl (fun r1 m7 hq => ?_)
              obtain ⟨rfl, f3⟩ := hq
              rw [hro, hlw]
              have es := ltS_s Ω r i
              have ff : ∃ c, FrM (mUp m 248 r c) m7 := ⟨_, f1.tr f3.M⟩
              repeat refine AW.s rfl ?_
              try dsimp only [List.set_cons_zero, List.set_cons_succ, Option.toList_some, Option.toList_none, List.cons_append, List.nil_append]
              refine AW.b rfl (fun hc => ?_) (fun hc => ?_)
              · have q3 : i = 0 := (nI_eq (b := 0) (by omega) (by decide)).mp hc
                rw [if_pos (show (ltS Ω r i).1 = -1 by rw [q3]; rfl)] at es
                repeat refine AW.u 37 rfl rfl ?_
                try dsimp only [List.set_cons_zero, List.set_cons_succ, Option.toList_some, Option.toList_none, List.cons_append, List.nil_append]
                refine AW.fg 7 ?_
                try dsimp only [List.set_cons_zero, List.set_cons_succ, Option.toList_some, Option.toList_none, List.cons_append, List.nil_append]
                have ih := ih () m7 hlt ff
                rw [es, if_neg (Nat.succ_ne_zero i)] at ih
                rw [nI_1]
                exact ih
              · have q3 : ¬ i = 0 := fun q => hc (by rw [q]; rfl)
                rw [if_neg (ltS_ne (by omega) (by omega))] at es
                repeat refine AW.s rfl ?_
                try dsimp only [List.set_cons_zero, List.set_cons_succ, Option.toList_some, Option.toList_none, List.cons_append, List.nil_append]
                refine AW.b rfl (fun hc => ?_) (fun hc => ?_)
                · have q4 := hc
                  rw [if_pos q4] at es
                  repeat refine AW.u 37 rfl rfl ?_
                  try dsimp only [List.set_cons_zero, List.set_cons_succ, Option.toList_some, Option.toList_none, List.cons_append, List.nil_append]
                  refine AW.fg 7 ?_
                  try dsimp only [List.set_cons_zero, List.set_cons_succ, Option.toList_some, Option.toList_none, List.cons_append, List.nil_append]
                  have ih := ih () m7 hlt ff
                  rw [es, if_neg (Nat.succ_ne_zero i)] at ih
                  rw [nI_1]
                  exact ih
                · have q4 := hc
                  rw [if_neg q4] at es
                  repeat refine AW.u 37 rfl rfl ?_
                  try dsimp only [List.set_cons_zero, List.set_cons_succ, Option.toList_some, Option.toList_none, List.cons_append, List.nil_append]
                  refine AW.fg 7 ?_
                  try dsimp only [List.set_cons_zero, List.set_cons_succ, Option.toList_some, Option.toList_none, List.cons_append, List.nil_append]
                  have ih := ih () m7 hlt ff
                  rw [es, if_neg (Nat.succ_ne_zero i)] at ih
                  rw [nI_1, if_neg q3]
                  exact ih
            · have : i = 26 := by
                have : ¬ i < 26 := fun q => hc (nI_lt (b := 26) q (by decide))
                omega
              subst this
              repeat refine AW.s rfl ?_
              try dsimp only [List.set_cons_zero, List.set_cons_succ, Option.toList_some, Option.toList_none, List.cons_append, List.nil_append]
              refine AW.c rfl (⟨vp_in_nI (by omega) (by decide), fun z => absurd z (by decide)⟩) ?_
              try dsimp only [List.set_cons_zero, List.set_cons_succ, Option.toList_some, Option.toList_none, List.cons_append, List.nil_append]
              rw [nI_clamp (by omega)]
              have f9 : FrM m (mUp m1 (243 + 5) r (m (243 + 5) r)) := by
                refine ⟨fun a ha => ?_, fun k hk => by rw [mUp_a (by decide), hf.2 k hk, mUp_a (by decide)]⟩
                by_cases e : a = 248
                · subst e
                  funext k
                  by_cases e2 : k = r
                  · subst e2; exact mUp_s _ _ _ _
                  · rw [mUp_n (Or.inr e2), congrFun (hf.1 248 (by omega)) k, mUp_n (Or.inr e2)]
                · rw [mUp_a e, hf.1 a ha, mUp_a e]
              rw [if_neg (show ¬ (26 : Nat) = 0 by decide)]
              repeat refine AW.s rfl ?_
              try dsimp only [List.set_cons_zero, List.set_cons_succ, Option.toList_some, Option.toList_none, List.cons_append, List.nil_append]
              refine AW.b rfl (fun hc => ?_) (fun hc => ?_)
              · rw [if_pos hc]
                repeat refine AW.s rfl ?_
                try dsimp only [List.set_cons_zero, List.set_cons_succ, Option.toList_some, Option.toList_none, List.cons_append, List.nil_append]
                exact AW.ri rfl rfl rfl ⟨rfl, f9⟩
              · rw [if_neg hc]
                repeat refine AW.s rfl ?_
                try dsimp only [List.set_cons_zero, List.set_cons_succ, Option.toList_some, Option.toList_none, List.cons_append, List.nil_append]
                exact AW.ri rfl rfl rfl ⟨rfl, f9⟩
          · by_cases e : a = 248
            · subst e
              funext k
              by_cases e2 : k = r
              · subst e2; exact (mUp_s _ _ _ _).symm
              · exact (mUp_n (Or.inr e2)).symm
            · exact (mUp_a e).symm
      · rw [wB_0 q1]
        refine AW.b rfl (fun hc => ?_) (fun hc => ?_)
        · exact hbad (by unfold letterF; rw [if_neg q1])
        · exact absurd rfl hc
  · rw [hB_0 q2]
    refine AW.b rfl (fun hc => ?_) (fun hc => ?_)
    · exact hbad (by
        unfold letterF
        by_cases q : wB b 1 = 1
        · rw [if_pos q, if_neg q2]
        · rw [if_neg q])
    · exact absurd rfl hc
end
