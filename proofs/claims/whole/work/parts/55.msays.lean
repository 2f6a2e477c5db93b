theorem rowL_last {σ : Sg} : (rowL σ).getLast? = if σ 0 3 = 0 then none else some (σ 6 (σ 0 3 - 1)) := by
  rw [List.getLast?_eq_getElem?, rowL_len]
  by_cases h : σ 0 3 = 0
  · rw [if_pos h]
    rw [List.getElem?_eq_none (by rw [rowL_len]; omega)]
  · rw [if_neg h]
    exact rowL_get (by omega)
theorem c_Msays {l : Launch} {X : XT} {d : Nat} {p w : Nat} {m : Mem} {σ : Sg} {xs : List Nat} {cs : List Int32} (hd : 1 ≤ d) (hs : RepM m σ) (hσ : WF σ) (hp : p < 3) (hw : w < σ 0 1) (hy : RMs m w (some xs)) (ho : WFo (some xs)) (hc0 : MOK m (3 * σ 0 4 + p) cs) : Meth l X d M_X11_says [vR 12 243, vI (nI p), vI (nI w)] m (fun r m' => r = some (vI (clI (mvl (fctV σ (rowL σ) w xs) cs))) ∧ ∀ a, a ≠ 258 → a ≠ 259 → m' a = m a) := by
  obtain ⟨d, rfl⟩ : ∃ e, d = e + 1 := ⟨d - 1, by omega⟩
  obtain ⟨g1, g2, g3⟩ := ho xs rfl
  have hw8 : w < 8 := Nat.lt_of_lt_of_le hw hσ.2.1
  have hl6 : σ 0 4 < 6 := hσ.2.2.2.2.1
  obtain ⟨k1, k2, k3, k4⟩ := hc0
  obtain ⟨vf, hvf⟩ := k4 (fctV σ (rowL σ) w xs)
  have hmv : mvl (fctV σ (rowL σ) w xs) cs = vf := by unfold mvl; rw [hvf]; rfl
  rw [hmv]
  have hlo : m (243 + 18) w = nI xs.length := hy.1
  refine E_X11_says (ls := [vR 12 243, vI (nI p), vI (nI w), vU, vU, vU, vU, vU]) rfl rfl ?_
  -- the codes are run
  have hrun : ∀ m2 : Mem, (∀ a, a ≠ 258 → a ≠ 259 → m2 a = m a) → (∀ k, k < 6 → m2 259 k = fctV σ (rowL σ) w xs k) → ∀ v3 : AV, AW (GM l X (d + 1) M_X11_says (fun r m' => r = some (vI (clI vf)) ∧ ∀ a, a ≠ 258 → a ≠ 259 → m' a = m a)) 146 [vR 12 243, vI (nI p), vI (nI w), v3, vI (nI (3 * σ 0 4 + p)), vI (nI 0), vI (nI 0), vU] [] m2 := by
    intro m2 hf2 hF v3
    refine AW.loop (pc := 146) (σ := List Int32) cs.length (fun i s => [vR 12 243, vI (nI p), vI (nI w), v3, vI (nI (3 * σ 0 4 + p)), vI (nI s.length), vI (nI i), vU]) (fun i s m3 => (∀ a, a ≠ 258 → a ≠ 259 → m3 a = m a) ∧ m3 259 = m2 259 ∧ rnC (fctV σ (rowL σ) w xs) (cs.take i) (some []) = some s ∧ RSt (m3 258) s) (fun i s m3 hi hm3 ih => ?_) 0 [] m2 (Nat.zero_le _) ⟨hf2, rfl, rfl, fun k x hk => by cases hk⟩
    obtain ⟨hf3, h259, hrn, hst⟩ := hm3
    have hsl : s.length ≤ 160 := by
      have := rnC_len _ hrn
      rw [List.length_take] at this
      have : s.length ≤ 0 + min i cs.length := this
      omega
    repeat refine AW.s rfl ?_
    try dsimp only [List.set_cons_zero, List.set_cons_succ, Option.toList_some, Option.toList_none, List.cons_append, List.nil_append]
    refine AW.c rfl (vp_in_nI (by omega) (by decide)) ?_
    try dsimp only [List.set_cons_zero, List.set_cons_succ, Option.toList_some, Option.toList_none, List.cons_append, List.nil_append]
    rw [nI_clamp (by omega), show m3 (243 + 10) (3 * σ 0 4 + p) = nI cs.length by rw [hf3 _ (by decide) (by decide)]; exact k1]
    refine AW.b rfl (fun hc => ?_) (fun hc => ?_)
    · have hlt : i < cs.length := (nI_ltI (by omega) (by omega)).mp hc
      obtain ⟨c, hcc⟩ : ∃ c, cs[i]? = some c := ⟨_, List.getElem?_eq_getElem hlt⟩
      obtain ⟨hcv, hokc⟩ := k3 i c hcc
      have hstep := rnC_step (F := fctV σ (rowL σ) w xs) (s := some []) hcc
      obtain ⟨t, ht⟩ := rnC_take hvf (i + 1)
      rw [hstep, hrn] at ht
      have ht : stp (fctV σ (rowL σ) w xs) c s = some t := ht
      have hnext : rnC (fctV σ (rowL σ) w xs) (cs.take (i + 1)) (some []) = some t := by rw [hstep, hrn]; exact ht
      repeat refine AW.s rfl ?_
      try dsimp only [List.set_cons_zero, List.set_cons_succ, Option.toList_some, Option.toList_none, List.cons_append, List.nil_append]
      rw [show (160 : Int32) * nI (3 * σ 0 4 + p) = nI (160 * (3 * σ 0 4 + p)) from pk_mul 160 _, nI_add]
      refine AW.c rfl (vp_in_nI (by omega) (by decide)) ?_
      try dsimp only [List.set_cons_zero, List.set_cons_succ, Option.toList_some, Option.toList_none, List.cons_append, List.nil_append]
      rw [nI_clamp (by omega), show m3 (243 + 9) (160 * (3 * σ 0 4 + p) + i) = c by rw [hf3 _ (by decide) (by decide)]; exact hcv]
      -- back to the head
      have hback : ∀ m4 : Mem, (∀ a, a ≠ 258 → m4 a = m3 a) → RSt (m4 258) t → AW (GM l X (d + 1) M_X11_says (fun r m' => r = some (vI (clI vf)) ∧ ∀ a, a ≠ 258 → a ≠ 259 → m' a = m a)) 321 [vR 12 243, vI (nI p), vI (nI w), v3, vI (nI (3 * σ 0 4 + p)), vI (nI t.length), vI (nI i), vI c] [] m4 := by
        intro m4 hf4 hst4
        repeat refine AW.u 146 rfl rfl ?_
        try dsimp only [List.set_cons_zero, List.set_cons_succ, Option.toList_some, Option.toList_none, List.cons_append, List.nil_append]
        rw [nI_1]
        refine AW.fg 7 ?_
        try dsimp only [List.set_cons_zero, List.set_cons_succ, Option.toList_some, Option.toList_none, List.cons_append, List.nil_append]
        exact ih t m4 hlt ⟨fun a h1 h2 => by rw [hf4 a h1]; exact hf3 a h1 h2, by rw [hf4 259 (by decide)]; exact h259, hnext, hst4⟩
      have hup : ∀ (k : Nat) (x : Int32) (a : Nat), a ≠ 258 → mUp m3 258 k x a = m3 a := fun k x a ha => mUp_a ha
      unfold stp at ht
      repeat refine AW.s rfl ?_
      try dsimp only [List.set_cons_zero, List.set_cons_succ, Option.toList_some, Option.toList_none, List.cons_append, List.nil_append]
      refine AW.b rfl (fun hc => ?_) (fun hc => ?_)
      · rw [if_pos hc] at ht
        cases ht
        repeat refine AW.s rfl ?_
        try dsimp only [List.set_cons_zero, List.set_cons_succ, Option.toList_some, Option.toList_none, List.cons_append, List.nil_append]
        refine AW.c rfl (⟨vp_in_nI (by omega) (by decide), fun q => absurd q (by decide)⟩) ?_
        try dsimp only [List.set_cons_zero, List.set_cons_succ, Option.toList_some, Option.toList_none, List.cons_append, List.nil_append]
        rw [nI_clamp (by omega)]
        iterate 2 refine AW.s rfl ?_
        try dsimp only [List.set_cons_zero, List.set_cons_succ, Option.toList_some, Option.toList_none, List.cons_append, List.nil_append]
        rw [nI_1]
        refine hback _ (hup _ _) ?_
        rw [mUp_row]
        exact RSt_push hst
      · have hn0 := hc
        rw [if_neg hn0] at ht
        obtain ⟨o, hco, ho9⟩ : ∃ o, c = nI o ∧ (o < 6 ∨ (10 ≤ o ∧ o ≤ 18)) := by
          rcases hokc with q | q
          · exact absurd q hn0
          · exact q
        subst hco
        repeat refine AW.s rfl ?_
        try dsimp only [List.set_cons_zero, List.set_cons_succ, Option.toList_some, Option.toList_none, List.cons_append, List.nil_append]
        refine AW.b rfl (fun hc => ?_) (fun hc => ?_)
        · have h6 : o < 6 := (nI_ltI (b := 6) (by omega) (by decide)).mp hc
          rw [if_pos hc] at ht
          rw [nI_clamp (by omega)] at ht
          cases ht
          repeat refine AW.s rfl ?_
          try dsimp only [List.set_cons_zero, List.set_cons_succ, Option.toList_some, Option.toList_none, List.cons_append, List.nil_append]
          refine AW.c rfl (vp_in_nI (by omega) (by decide)) ?_
          try dsimp only [List.set_cons_zero, List.set_cons_succ, Option.toList_some, Option.toList_none, List.cons_append, List.nil_append]
          rw [nI_clamp (by omega), show m3 (243 + 16) o = fctV σ (rowL σ) w xs o by rw [show m3 (243 + 16) = m2 259 from h259]; exact hF o h6]
          refine AW.c rfl (⟨vp_in_nI (by omega) (by decide), fun q => absurd q (by decide)⟩) ?_
          try dsimp only [List.set_cons_zero, List.set_cons_succ, Option.toList_some, Option.toList_none, List.cons_append, List.nil_append]
          rw [nI_clamp (by omega)]
          iterate 2 refine AW.s rfl ?_
          try dsimp only [List.set_cons_zero, List.set_cons_succ, Option.toList_some, Option.toList_none, List.cons_append, List.nil_append]
          rw [nI_1]
          refine hback _ (hup _ _) ?_
          rw [mUp_row]
          exact RSt_push hst
        · have h6 := hc
          rw [if_neg h6] at ht
          have ho10 : 10 ≤ o ∧ o ≤ 18 := by
            rcases ho9 with q | q
            · exact absurd (nI_lt (b := 6) q (by decide)) h6
            · exact q
          repeat refine AW.s rfl ?_
          try dsimp only [List.set_cons_zero, List.set_cons_succ, Option.toList_some, Option.toList_none, List.cons_append, List.nil_append]
          refine AW.b rfl (fun hc => ?_) (fun hc => ?_)
          · rw [if_pos hc] at ht
            cases s with
            | nil => cases ht
            | cons x r =>
              cases ht
              have hx := hst 0 x rfl
              rw [List.length_cons] at hx hsl
              have hx : m3 258 r.length = x := hx
              repeat refine AW.s rfl ?_
              try dsimp only [List.set_cons_zero, List.set_cons_succ, Option.toList_some, Option.toList_none, List.cons_append, List.nil_append]
              rw [List.length_cons, nI_pred]
              repeat refine AW.s rfl ?_
              try dsimp only [List.set_cons_zero, List.set_cons_succ, Option.toList_some, Option.toList_none, List.cons_append, List.nil_append]
              refine AW.c rfl (vp_in_nI (by omega) (by decide)) ?_
              try dsimp only [List.set_cons_zero, List.set_cons_succ, Option.toList_some, Option.toList_none, List.cons_append, List.nil_append]
              rw [nI_clamp (by omega), show m3 (243 + 15) r.length = x from hx]
              have hst2 : ∀ v, v = (if x = 0 then (1 : Int32) else 0) → AW (GM l X (d + 1) M_X11_says (fun r m' => r = some (vI (clI vf)) ∧ ∀ a, a ≠ 258 → a ≠ 259 → m' a = m a)) 255 [vR 12 243, vI (nI p), vI (nI w), v3, vI (nI (3 * σ 0 4 + p)), vI (nI (r.length + 1)), vI (nI i), vI (nI o)] [vI v, vI (nI r.length), vR 1170 258] m3 := by
                intro v hv
                refine AW.c rfl (⟨vp_in_nI (by omega) (by decide), fun q => absurd q (by decide)⟩) ?_
                try dsimp only [List.set_cons_zero, List.set_cons_succ, Option.toList_some, Option.toList_none, List.cons_append, List.nil_append]
                rw [nI_clamp (by omega)]
                refine AW.s rfl ?_
                try dsimp only [List.set_cons_zero, List.set_cons_succ, Option.toList_some, Option.toList_none, List.cons_append, List.nil_append]
                refine hback _ (hup _ _) ?_
                rw [mUp_row, ← hv]
                exact RSt_top hst
              refine AW.b rfl (fun hc => ?_) (fun hc => ?_)
              · iterate 2 refine AW.s rfl ?_
                try dsimp only [List.set_cons_zero, List.set_cons_succ, Option.toList_some, Option.toList_none, List.cons_append, List.nil_append]
                exact hst2 1 (by rw [if_pos hc])
              · refine AW.s rfl ?_
                try dsimp only [List.set_cons_zero, List.set_cons_succ, Option.toList_some, Option.toList_none, List.cons_append, List.nil_append]
                exact hst2 0 (by rw [if_neg hc])
          · have h12 := hc
            rw [if_neg h12] at ht
            repeat refine AW.s rfl ?_
            try dsimp only [List.set_cons_zero, List.set_cons_succ, Option.toList_some, Option.toList_none, List.cons_append, List.nil_append]
            refine AW.b rfl (fun hc => ?_) (fun hc => ?_)
            · rw [if_pos hc] at ht
              cases s with
              | nil => cases ht
              | cons x r =>
                cases ht
                have hx := hst 0 x rfl
                rw [List.length_cons] at hx hsl
                have hx : m3 258 r.length = x := hx
                repeat refine AW.s rfl ?_
                try dsimp only [List.set_cons_zero, List.set_cons_succ, Option.toList_some, Option.toList_none, List.cons_append, List.nil_append]
                rw [List.length_cons, nI_pred]
                repeat refine AW.s rfl ?_
                try dsimp only [List.set_cons_zero, List.set_cons_succ, Option.toList_some, Option.toList_none, List.cons_append, List.nil_append]
                refine AW.c rfl (vp_in_nI (by omega) (by decide)) ?_
                try dsimp only [List.set_cons_zero, List.set_cons_succ, Option.toList_some, Option.toList_none, List.cons_append, List.nil_append]
                rw [nI_clamp (by omega), show m3 (243 + 15) r.length = x from hx]
                refine AW.s rfl ?_
                try dsimp only [List.set_cons_zero, List.set_cons_succ, Option.toList_some, Option.toList_none, List.cons_append, List.nil_append]
                refine AW.c rfl (⟨vp_in_nI (by omega) (by decide), fun q => absurd q (by decide)⟩) ?_
                try dsimp only [List.set_cons_zero, List.set_cons_succ, Option.toList_some, Option.toList_none, List.cons_append, List.nil_append]
                rw [nI_clamp (by omega)]
                refine AW.s rfl ?_
                try dsimp only [List.set_cons_zero, List.set_cons_succ, Option.toList_some, Option.toList_none, List.cons_append, List.nil_append]
                refine hback _ (hup _ _) ?_
                rw [mUp_row]
                exact RSt_top hst
            · have h18 := hc
              rw [if_neg h18] at ht
              cases s with
              | nil => cases ht
              | cons y r0 =>
                cases r0 with
                | nil => cases ht
                | cons x r =>
                  cases ht
                  have hy0 := hst 0 y rfl
                  have hx0 := hst 1 x rfl
                  rw [List.length_cons, List.length_cons] at hy0 hx0 hsl
                  have hy0 : m3 258 (r.length + 1) = y := hy0
                  have hx0 : m3 258 r.length = x := hx0
                  refine AW.s rfl ?_
                  try dsimp only [List.set_cons_zero, List.set_cons_succ, Option.toList_some, Option.toList_none, List.cons_append, List.nil_append]
                  rw [List.length_cons, List.length_cons, pk_m1]
                  repeat refine AW.s rfl ?_
                  try dsimp only [List.set_cons_zero, List.set_cons_succ, Option.toList_some, Option.toList_none, List.cons_append, List.nil_append]
                  rw [nI_pred]
                  repeat refine AW.s rfl ?_
                  try dsimp only [List.set_cons_zero, List.set_cons_succ, Option.toList_some, Option.toList_none, List.cons_append, List.nil_append]
                  refine AW.c rfl (vp_in_nI (by omega) (by decide)) ?_
                  try dsimp only [List.set_cons_zero, List.set_cons_succ, Option.toList_some, Option.toList_none, List.cons_append, List.nil_append]
                  rw [nI_clamp (by omega), show m3 (243 + 15) r.length = x from hx0]
                  repeat refine AW.s rfl ?_
                  try dsimp only [List.set_cons_zero, List.set_cons_succ, Option.toList_some, Option.toList_none, List.cons_append, List.nil_append]
                  refine AW.c rfl (vp_in_nI (by omega) (by decide)) ?_
                  try dsimp only [List.set_cons_zero, List.set_cons_succ, Option.toList_some, Option.toList_none, List.cons_append, List.nil_append]
                  rw [nI_clamp (by omega), show m3 (243 + 15) (r.length + 1) = y from hy0]
                  refine AW.S k_11_214 ((c_Mdone (o := o) (by omega) (by have : o ≠ 18 := fun q => h18 (by rw [q]; rfl); omega) (fun q => h12 (by rw [q]; rfl)))) rfl rfl rfl rfl (fun r1 m9 hq => ?_)
                  obtain ⟨rfl, hm9⟩ := hq
                  rw [hm9]
                  try dsimp only [List.set_cons_zero, List.set_cons_succ, Option.toList_some, Option.toList_none, List.cons_append, List.nil_append]
                  refine AW.c rfl (⟨vp_in_nI (by omega) (by decide), fun q => absurd q (by decide)⟩) ?_
                  try dsimp only [List.set_cons_zero, List.set_cons_succ, Option.toList_some, Option.toList_none, List.cons_append, List.nil_append]
                  rw [nI_clamp (by omega)]
                  refine hback _ (hup _ _) ?_
                  rw [mUp_row]
                  exact RSt_two hst
    · have : i = cs.length := by
        have : ¬ i < cs.length := fun q => hc ((nI_ltI (by omega) (by omega)).mpr q)
        omega
      subst this
      rw [List.take_length, hvf] at hrn
      cases hrn
      have h0 := hst 0 vf rfl
      have h0 : m3 258 0 = vf := h0
      repeat refine AW.s rfl ?_
      try dsimp only [List.set_cons_zero, List.set_cons_succ, Option.toList_some, Option.toList_none, List.cons_append, List.nil_append]
      refine AW.c rfl (vp_in_nI (n := 0) (by decide) (by decide)) ?_
      try dsimp only [List.set_cons_zero, List.set_cons_succ, Option.toList_some, Option.toList_none, List.cons_append, List.nil_append]
      rw [show (0 : Int32).toNatClampNeg = 0 from rfl, show m3 (243 + 15) 0 = vf from h0]
      refine AW.mmin (G := GM l X (d + 1) M_X11_says _) rfl k_11_218 rR1 (by decide) ?_
      try dsimp only [List.set_cons_zero, List.set_cons_succ, Option.toList_some, Option.toList_none, List.cons_append, List.nil_append]
      refine AW.mmax (G := GM l X (d + 1) M_X11_says _) rfl k_11_223 rR1 (by decide) ?_
      try dsimp only [List.set_cons_zero, List.set_cons_succ, Option.toList_some, Option.toList_none, List.cons_append, List.nil_append]
      exact AW.ri rfl rfl rfl ⟨rfl, hf3⟩
  repeat refine AW.u 5 rfl rfl ?_
  try dsimp only [List.set_cons_zero, List.set_cons_succ, Option.toList_some, Option.toList_none, List.cons_append, List.nil_append]
  refine AW.loop (pc := 5) (σ := Unit) xs.length (fun i _ => [vR 12 243, vI (nI p), vI (nI w), vI (nI (vcnt (σ 0 0) (xs.take i))), vI (nI i), vU, vU, vU]) (fun i _ m1 => m1 = m) (fun i _ m1 hi hm1 ih => ?_) 0 () m (Nat.zero_le _) rfl
  subst hm1
  repeat refine AW.s rfl ?_
  try dsimp only [List.set_cons_zero, List.set_cons_succ, Option.toList_some, Option.toList_none, List.cons_append, List.nil_append]
  refine AW.c rfl (vp_in_nI (by omega) (by decide)) ?_
  try dsimp only [List.set_cons_zero, List.set_cons_succ, Option.toList_some, Option.toList_none, List.cons_append, List.nil_append]
  rw [nI_clamp (by omega), hlo]
  refine AW.b rfl (fun hc => ?_) (fun hc => ?_)
  · have hlt : i < xs.length := (nI_ltI (by omega) (by omega)).mp hc
    obtain ⟨x, hx⟩ : ∃ x, xs[i]? = some x := ⟨_, List.getElem?_eq_getElem hlt⟩
    have hx26 : x < 26 := g1 x (List.mem_of_getElem? hx)
    have hvt := vcnt_take (V := σ 0 0) hx
    repeat refine AW.s rfl ?_
    try dsimp only [List.set_cons_zero, List.set_cons_succ, Option.toList_some, Option.toList_none, List.cons_append, List.nil_append]
    rw [show (40 : Int32) * nI w = nI (40 * w) from pk_mul 40 w, nI_add]
    refine AW.c rfl (vp_in_nI (by omega) (by decide)) ?_
    try dsimp only [List.set_cons_zero, List.set_cons_succ, Option.toList_some, Option.toList_none, List.cons_append, List.nil_append]
    rw [nI_clamp (by omega), show m1 (243 + 17) (40 * w + i) = nI x from hy.2 i x hx]
    refine AW.V k_11_211 ((c_MisVowel hs.1 hσ.1 hx26)) rfl rfl rfl rfl rfl rfl (fun r1 m9 hq => ?_)
    obtain ⟨rfl, hm9⟩ := hq
    rw [hm9]
    try dsimp only [List.set_cons_zero, List.set_cons_succ, Option.toList_some, Option.toList_none, List.cons_append, List.nil_append]
    by_cases q : (σ 0 0).testBit x = true
    · rw [if_pos q]
      rw [if_pos q] at hvt
      refine AW.b rfl (fun hc => ?_) (fun hc => ?_)
      · exact absurd hc (by decide)
      · repeat refine AW.u 5 rfl rfl ?_
        try dsimp only [List.set_cons_zero, List.set_cons_succ, Option.toList_some, Option.toList_none, List.cons_append, List.nil_append]
        rw [nI_1, nI_1, ← hvt]
        exact ih () _ hlt rfl
    · rw [if_neg q]
      rw [if_neg q] at hvt
      have hvt : vcnt (σ 0 0) (xs.take (i + 1)) = vcnt (σ 0 0) (xs.take i) := hvt
      refine AW.b rfl (fun hc => ?_) (fun hc => ?_)
      · repeat refine AW.u 5 rfl rfl ?_
        try dsimp only [List.set_cons_zero, List.set_cons_succ, Option.toList_some, Option.toList_none, List.cons_append, List.nil_append]
        rw [nI_1, show ∀ z : Int32, z + 0 = z from fun z => by simp, ← hvt]
        exact ih () _ hlt rfl
      · exact absurd rfl hc
  · have : i = xs.length := by
      have : ¬ i < xs.length := fun q => hc ((nI_ltI (by omega) (by omega)).mpr q)
      omega
    subst this
    rw [List.take_length]
    repeat refine AW.s rfl ?_
    try dsimp only [List.set_cons_zero, List.set_cons_succ, Option.toList_some, Option.toList_none, List.cons_append, List.nil_append]
    refine AW.c rfl (vp_in_nI (by omega) (by decide)) ?_
    try dsimp only [List.set_cons_zero, List.set_cons_succ, Option.toList_some, Option.toList_none, List.cons_append, List.nil_append]
    rw [nI_clamp (by omega), hlo]
    refine AW.c rfl (⟨vp_in_nI (n := 0) (by decide) (by decide), fun q => absurd q (by decide)⟩) ?_
    try dsimp only [List.set_cons_zero, List.set_cons_succ, Option.toList_some, Option.toList_none, List.cons_append, List.nil_append]
    rw [show (0 : Int32).toNatClampNeg = 0 from rfl]
    repeat refine AW.s rfl ?_
    try dsimp only [List.set_cons_zero, List.set_cons_succ, Option.toList_some, Option.toList_none, List.cons_append, List.nil_append]
    refine AW.c rfl (⟨vp_in_nI (n := 1) (by decide) (by decide), fun q => absurd q (by decide)⟩) ?_
    try dsimp only [List.set_cons_zero, List.set_cons_succ, Option.toList_some, Option.toList_none, List.cons_append, List.nil_append]
    rw [show (1 : Int32).toNatClampNeg = 1 from rfl]
    repeat refine AW.s rfl ?_
    try dsimp only [List.set_cons_zero, List.set_cons_succ, Option.toList_some, Option.toList_none, List.cons_append, List.nil_append]
    rw [mUp_a (show (243 : Nat) ≠ 259 by decide), mUp_a (show (243 : Nat) ≠ 259 by decide), show m1 243 9 = nI (σ 0 3) from hs.2.2.2.1]
    refine AW.c rfl (⟨vp_in_nI (n := 2) (by decide) (by decide), fun q => absurd q (by decide)⟩) ?_
    try dsimp only [List.set_cons_zero, List.set_cons_succ, Option.toList_some, Option.toList_none, List.cons_append, List.nil_append]
    rw [show (2 : Int32).toNatClampNeg = 2 from rfl]
    repeat refine AW.s rfl ?_
    try dsimp only [List.set_cons_zero, List.set_cons_succ, Option.toList_some, Option.toList_none, List.cons_append, List.nil_append]
    have hlast := rowL_last (σ := σ)
    have hf3 : fctV σ (rowL σ) w xs 3 = (match (rowL σ).getLast? with | none => 0 | some r => nI (σ 5 r)) := rfl
    have hfin : ∀ v : Int32, v = fctV σ (rowL σ) w xs 3 → AW (GM l X (d + 1) M_X11_says (fun r m' => r = some (vI (clI vf)) ∧ ∀ a, a ≠ 258 → a ≠ 259 → m' a = m1 a)) 110 [vR 12 243, vI (nI p), vI (nI w), vI (nI (vcnt (σ 0 0) xs)), vI (nI xs.length), vU, vU, vU] [vI v, vI 3, vR 1006 259] (mUp (mUp (mUp m1 259 0 (nI xs.length)) 259 1 (nI (vcnt (σ 0 0) xs))) 259 2 (nI (σ 0 3))) := by
      intro v hv
      refine AW.c rfl (⟨vp_in_nI (n := 3) (by decide) (by decide), fun q => absurd q (by decide)⟩) ?_
      try dsimp only [List.set_cons_zero, List.set_cons_succ, Option.toList_some, Option.toList_none, List.cons_append, List.nil_append]
      rw [show (3 : Int32).toNatClampNeg = 3 from rfl]
      repeat refine AW.s rfl ?_
      try dsimp only [List.set_cons_zero, List.set_cons_succ, Option.toList_some, Option.toList_none, List.cons_append, List.nil_append]
      refine AW.c rfl (⟨vp_in_nI (n := 4) (by decide) (by decide), fun q => absurd q (by decide)⟩) ?_
      try dsimp only [List.set_cons_zero, List.set_cons_succ, Option.toList_some, Option.toList_none, List.cons_append, List.nil_append]
      rw [show (4 : Int32).toNatClampNeg = 4 from rfl]
      repeat refine AW.s rfl ?_
      try dsimp only [List.set_cons_zero, List.set_cons_succ, Option.toList_some, Option.toList_none, List.cons_append, List.nil_append]
      refine AW.c rfl (vp_in_nI (by omega) (by decide)) ?_
      try dsimp only [List.set_cons_zero, List.set_cons_succ, Option.toList_some, Option.toList_none, List.cons_append, List.nil_append]
      rw [nI_clamp (by omega)]
      refine AW.c rfl (⟨vp_in_nI (n := 5) (by decide) (by decide), fun q => absurd q (by decide)⟩) ?_
      try dsimp only [List.set_cons_zero, List.set_cons_succ, Option.toList_some, Option.toList_none, List.cons_append, List.nil_append]
      rw [show (5 : Int32).toNatClampNeg = 5 from rfl]
      repeat refine AW.u 146 rfl rfl ?_
      try dsimp only [List.set_cons_zero, List.set_cons_succ, Option.toList_some, Option.toList_none, List.cons_append, List.nil_append]
      have e243 : (243 : Nat) ≠ 259 := by decide
      rw [mUp_a e243, mUp_a e243, mUp_a e243, mUp_a e243, mUp_a e243, mUp_a e243, show m1 243 14 = nI (σ 0 4) from hs.2.2.2.2.1, show (3 : Int32) * nI (σ 0 4) = nI (3 * σ 0 4) from pk_mul 3 _, nI_add]
      refine hrun _ (fun a _ ha => by rw [mUp_a ha, mUp_a ha, mUp_a ha, mUp_a ha, mUp_a ha, mUp_a ha]) (fun k hk => ?_) _
      rcases k6 hk with e | e | e | e | e | e <;> subst e
      · rw [mUp_n (Or.inr (by decide)), mUp_n (Or.inr (by decide)), mUp_n (Or.inr (by decide)), mUp_n (Or.inr (by decide)), mUp_n (Or.inr (by decide)), mUp_s]; rfl
      · rw [mUp_n (Or.inr (by decide)), mUp_n (Or.inr (by decide)), mUp_n (Or.inr (by decide)), mUp_n (Or.inr (by decide)), mUp_s]; rfl
      · rw [mUp_n (Or.inr (by decide)), mUp_n (Or.inr (by decide)), mUp_n (Or.inr (by decide)), mUp_s]
        show nI (σ 0 3) = nI (rowL σ).length
        rw [rowL_len]
      · rw [mUp_n (Or.inr (by decide)), mUp_n (Or.inr (by decide)), mUp_s]; exact hv
      · rw [mUp_n (Or.inr (by decide)), mUp_s]; rfl
      · rw [mUp_s]
        have e12 : (246 : Nat) ≠ 259 := by decide
        show mUp (mUp (mUp (mUp (mUp m1 _ _ _) _ _ _) _ _ _) _ _ _) _ _ _ 246 w = nI (σ 2 w)
        rw [mUp_a e12, mUp_a e12, mUp_a e12, mUp_a e12, mUp_a e12]
        exact (hs.2.2.2.2.2.1 w hw).2.1
    have e243 : (243 : Nat) ≠ 259 := by decide
    rw [mUp_a e243, mUp_a e243, mUp_a e243, show m1 243 9 = nI (σ 0 3) from hs.2.2.2.1]
    have h3le : σ 0 3 ≤ 8 := hσ.2.2.2.1
    refine AW.b rfl (fun hc => ?_) (fun hc => ?_)
    · have e : σ 0 3 = 0 := (nI_eq (b := 0) (by omega) (by decide)).mp hc
      rw [if_pos e] at hlast
      rw [hlast] at hf3
      iterate 2 refine AW.s rfl ?_
      try dsimp only [List.set_cons_zero, List.set_cons_succ, Option.toList_some, Option.toList_none, List.cons_append, List.nil_append]
      exact hfin 0 hf3.symm
    · have e : ¬ σ 0 3 = 0 := fun q => hc (by rw [q]; rfl)
      rw [if_neg e] at hlast
      rw [hlast] at hf3
      have hrr : σ 6 (σ 0 3 - 1) < σ 0 2 := hσ.2.2.2.2.2.2.2 _ (by omega)
      have h62 : σ 0 2 ≤ 6 := hσ.2.2.1
      repeat refine AW.s rfl ?_
      try dsimp only [List.set_cons_zero, List.set_cons_succ, Option.toList_some, Option.toList_none, List.cons_append, List.nil_append]
      rw [mUp_a e243, mUp_a e243, mUp_a e243, show m1 243 9 = nI (σ 0 3) from hs.2.2.2.1, show nI (σ 0 3) - 1 = nI (σ 0 3 - 1) from pk_sub (b := 1) (by omega)]
      refine AW.c rfl (vp_in_nI (by omega) (by decide)) ?_
      try dsimp only [List.set_cons_zero, List.set_cons_succ, Option.toList_some, Option.toList_none, List.cons_append, List.nil_append]
      have e250 : (250 : Nat) ≠ 259 := by decide
      rw [nI_clamp (by omega), show mUp (mUp (mUp m1 259 0 (nI xs.length)) 259 1 (nI (vcnt (σ 0 0) xs))) 259 2 (nI (σ 0 3)) (243 + 7) (σ 0 3 - 1) = nI (σ 6 (σ 0 3 - 1)) by
        show mUp (mUp (mUp m1 259 0 (nI xs.length)) 259 1 (nI (vcnt (σ 0 0) xs))) 259 2 (nI (σ 0 3)) 250 (σ 0 3 - 1) = _
        rw [mUp_a e250, mUp_a e250, mUp_a e250]; exact hs.2.2.2.2.2.2.2 _ (by omega)]
      refine AW.c rfl (vp_in_nI (by omega) (by decide)) ?_
      try dsimp only [List.set_cons_zero, List.set_cons_succ, Option.toList_some, Option.toList_none, List.cons_append, List.nil_append]
      have e249 : (249 : Nat) ≠ 259 := by decide
      rw [nI_clamp (by omega)]
      refine hfin _ ?_
      show mUp (mUp (mUp m1 259 0 (nI xs.length)) 259 1 (nI (vcnt (σ 0 0) xs))) 259 2 (nI (σ 0 3)) 249 _ = _
      rw [mUp_a e249, mUp_a e249, mUp_a e249, hf3]
      exact (hs.2.2.2.2.2.2.1 _ hrr).2.2
