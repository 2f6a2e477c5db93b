-- ===== the model: safe, of, apart, all =====
section
variable {l : Launch} {X : XT} {d : Nat} {m : Mem} {Ω : OM}
theorem RepM.uL {m : Mem} {σ : Sg} {w i c : Nat} (hs : RepM m σ) (hσ : WF σ) (hi : i < 10) : RepM (mUp m 244 (10 * w + i) (nI c)) (sU σ (10 + w) i c) := by
  obtain ⟨a1, a2, a3, a4, a5, a6, a7, a8⟩ := hs
  have e : ∀ a k, a < 10 → sU σ (10 + w) i c a k = σ a k := fun a k h => sU_o (by omega)
  refine ⟨by rw [mUp_a (by decide), e 0 0 (by decide)]; exact a1, by rw [mUp_a (by decide), e 0 1 (by decide)]; exact a2, by rw [mUp_a (by decide), e 0 2 (by decide)]; exact a3, by rw [mUp_a (by decide), e 0 3 (by decide)]; exact a4, by rw [mUp_a (by decide), e 0 4 (by decide)]; exact a5, fun v hv => ?_, fun r hr => ?_, fun q hq => ?_⟩
  · rw [e 0 1 (by decide)] at hv
    obtain ⟨x1, x2, x3⟩ := a6 v hv
    have hv10 := (hσ.2.2.2.2.2.1 v hv).2.1
    refine ⟨by rw [mUp_a (by decide), e 1 v (by decide)]; exact x1, by rw [mUp_a (by decide), e 2 v (by decide)]; exact x2, fun k hk => ?_⟩
    rw [e 1 v (by decide)] at hk
    by_cases q : v = w ∧ k = i
    · rw [q.1, q.2, mUp_s, sU_t]
    · rw [mUp_n (Or.inr (by omega)), show sU σ (10 + w) i c (10 + v) k = σ (10 + v) k from if_neg (by omega)]
      exact x3 k hk
  · rw [e 0 2 (by decide)] at hr
    rw [mUp_a (by decide), mUp_a (by decide), mUp_a (by decide), e 3 r (by decide), e 4 r (by decide), e 5 r (by decide)]
    exact a7 r hr
  · rw [e 0 3 (by decide)] at hq
    rw [mUp_a (by decide), e 6 q (by decide)]
    exact a8 q hq
theorem c_Msafe {w : Nat} {σ : Sg} (hd : 5 ≤ d) (hs : RepM m σ) (hσ : WF σ) (hw : w < σ 0 1) : Meth l X d M_X11_safe [vR 12 243, vI (nI w)] m (fun r1 m' => ∃ x, r1 = some (vI x) ∧ isBits x (fun i => i < σ 1 w ∧ ∀ c, c < 26 → safeC σ w i c) ∧ FrM m m') := by
  obtain ⟨d, rfl⟩ : ∃ e, d = e + 1 := ⟨d - 1, by omega⟩
  have h8 := hσ.2.1
  have hw8 : w < 8 := Nat.lt_of_lt_of_le hw h8
  obtain ⟨z1, z2, z3, z4⟩ := hσ.2.2.2.2.2.1 w hw
  refine E_X11_safe (ls := [vR 12 243, vI (nI w), vU, vU, vU, vU, vU]) rfl rfl ?_
  repeat refine AW.s rfl ?_
  try dsimp only [List.set_cons_zero, List.set_cons_succ, Option.toList_some, Option.toList_none, List.cons_append, List.nil_append]
  refine AW.V k_11_252 ((c_MsayAll (by omega) hs hσ)) rfl rfl rfl rfl rfl rfl (fun r1 m0 hq => ?_)
  obtain ⟨rfl, hall, f0⟩ := hq
  -- what holds between the rounds of the outer loop: all but w's saying and the scratch
  repeat refine AW.u 8 rfl rfl ?_
  try dsimp only [List.set_cons_zero, List.set_cons_succ, Option.toList_some, Option.toList_none, List.cons_append, List.nil_append]
  refine AW.loop (pc := 8) (σ := Int32) (σ 1 w) (fun i x => [vR 12 243, vI (nI w), vI x, vI (nI i), vU, vU, vU]) (fun i x m1 => FrS m m1 ∧ (∀ v, v < σ 0 1 → v ≠ w → RMs m1 v (saidS σ (rowL σ) v)) ∧ isBits x (fun j => j < i ∧ ∀ c, c < 26 → safeC σ w j c)) (fun i x m1 hi hm1 ih => ?_) 0 0 m0 (Nat.zero_le _) ⟨f0, fun v hv _ => hall v hv, isBits.zero.to (fun b => ⟨fun q => absurd q id, fun q => absurd q.1 (by omega)⟩)⟩
  obtain ⟨hf, hot, hb⟩ := hm1
  have hs1 := hs.S hf
  obtain ⟨y1, y2, y3⟩ := hs1.2.2.2.2.2.1 w hw
  repeat refine AW.s rfl ?_
  try dsimp only [List.set_cons_zero, List.set_cons_succ, Option.toList_some, Option.toList_none, List.cons_append, List.nil_append]
  refine AW.c rfl (vp_in_nI (by omega) (by decide)) ?_
  try dsimp only [List.set_cons_zero, List.set_cons_succ, Option.toList_some, Option.toList_none, List.cons_append, List.nil_append]
  rw [nI_clamp (by omega), show m1 (243 + 2) w = nI (σ 1 w) from y1]
  refine AW.b rfl (fun hc => ?_) (fun hc => ?_)
  · have hlt : i < σ 1 w := (nI_ltI (by omega) (by omega)).mp hc
    have hown := z4 i hlt
    repeat refine AW.s rfl ?_
    try dsimp only [List.set_cons_zero, List.set_cons_succ, Option.toList_some, Option.toList_none, List.cons_append, List.nil_append]
    rw [show (10 : Int32) * nI w = nI (10 * w) from pk_mul 10 w, nI_add]
    refine AW.c rfl (vp_in_nI (by omega) (by decide)) ?_
    try dsimp only [List.set_cons_zero, List.set_cons_succ, Option.toList_some, Option.toList_none, List.cons_append, List.nil_append]
    rw [nI_clamp (by omega), show m1 (243 + 1) (10 * w + i) = nI (σ (10 + w) i) from y3 i hlt]
    -- behind the inner loop
    have fin : ∀ (bb : Bool) (y : AV) (m2 : Mem), (bb = true ↔ ∀ c, c < 26 → safeC σ w i c) → (∃ c, FrS (mUp m 244 (10 * w + i) c) m2) → (∀ v, v < σ 0 1 → v ≠ w → RMs m2 v (saidS σ (rowL σ) v)) → AW (GM l X (d + 1) M_X11_safe (fun r1 m' => ∃ x, r1 = some (vI x) ∧ isBits x (fun i => i < σ 1 w ∧ ∀ c, c < 26 → safeC σ w i c) ∧ FrM m m')) 98 [vR 12 243, vI (nI w), vI x, vI (nI i), vI (nI (σ (10 + w) i)), vI (if bb then 1 else 0), y] [] m2 := by
      intro bb y m2 hbb ⟨c0, hf2⟩ hot2
      repeat refine AW.s rfl ?_
      try dsimp only [List.set_cons_zero, List.set_cons_succ, Option.toList_some, Option.toList_none, List.cons_append, List.nil_append]
      rw [show (10 : Int32) * nI w = nI (10 * w) from pk_mul 10 w, nI_add]
      refine AW.c rfl (⟨vp_in_nI (by omega) (by decide), fun z => absurd z (by decide)⟩) ?_
      try dsimp only [List.set_cons_zero, List.set_cons_succ, Option.toList_some, Option.toList_none, List.cons_append, List.nil_append]
      rw [nI_clamp (by omega)]
      have hf3 : FrS m (mUp m2 (243 + 1) (10 * w + i) (nI (σ (10 + w) i))) := by
        refine ⟨fun a h1 h2 h3 h4 h5 => ?_, fun k hk => by rw [mUp_a (by decide), hf2.2 k hk, mUp_a (by decide)]⟩
        by_cases e : a = 244
        · subst e
          funext k
          by_cases e2 : k = 10 * w + i
          · subst e2
            rw [mUp_s]
            exact ((hs.2.2.2.2.2.1 w hw).2.2 i hlt).symm
          · rw [mUp_n (Or.inr e2), hf2.1 244 (by decide) (by decide) (by decide) (by decide) (by decide), mUp_n (Or.inr e2)]
        · rw [mUp_a e, hf2.1 a h1 h2 h3 h4 h5, mUp_a e]
      have hot3 : ∀ v, v < σ 0 1 → v ≠ w → RMs (mUp m2 (243 + 1) (10 * w + i) (nI (σ (10 + w) i))) v (saidS σ (rowL σ) v) := fun v hv hne => (hot2 v hv hne).fr (saidS_wf hσ (rowL_wf hσ) hv) (by rw [mUp_a (by decide)]) (fun k _ => by rw [mUp_a (by decide)])
      repeat refine AW.s rfl ?_
      try dsimp only [List.set_cons_zero, List.set_cons_succ, Option.toList_some, Option.toList_none, List.cons_append, List.nil_append]
      cases bb with
      | true =>
        refine AW.b rfl (fun hc => ?_) (fun hc => ?_)
        · exact absurd (show (1 : Int32) = 0 from hc) (by decide)
        · repeat refine AW.u 8 rfl rfl ?_
          try dsimp only [List.set_cons_zero, List.set_cons_succ, Option.toList_some, Option.toList_none, List.cons_append, List.nil_append]
          refine AW.fg 4 ?_
          refine AW.fg 5 ?_
          refine AW.fg 6 ?_
          try dsimp only [List.set_cons_zero, List.set_cons_succ, Option.toList_some, Option.toList_none, List.cons_append, List.nil_append]
          rw [nI_1]
          refine ih _ _ hlt ⟨hf3, hot3, (hb.or (k := i) (by omega)).to (fun r => ⟨fun q => ?_, fun q => ?_⟩)⟩
          · rcases q with q | rfl
            · exact ⟨by omega, q.2⟩
            · exact ⟨by omega, hbb.mp rfl⟩
          · by_cases e : r = i
            · exact Or.inr e
            · exact Or.inl ⟨by omega, q.2⟩
      | false =>
        refine AW.b rfl (fun hc => ?_) (fun hc => ?_)
        · repeat refine AW.u 8 rfl rfl ?_
          try dsimp only [List.set_cons_zero, List.set_cons_succ, Option.toList_some, Option.toList_none, List.cons_append, List.nil_append]
          refine AW.fg 4 ?_
          refine AW.fg 5 ?_
          refine AW.fg 6 ?_
          try dsimp only [List.set_cons_zero, List.set_cons_succ, Option.toList_some, Option.toList_none, List.cons_append, List.nil_append]
          rw [nI_1, show x ||| 0 = x by simp]
          refine ih _ _ hlt ⟨hf3, hot3, hb.to (fun r => ⟨fun q => ⟨by omega, q.2⟩, fun q => ?_⟩)⟩
          by_cases e : r = i
          · subst e; exact absurd (hbb.mpr q.2) (by decide)
          · exact ⟨by omega, q.2⟩
        · exact absurd rfl hc
    repeat refine AW.u 37 rfl rfl ?_
    try dsimp only [List.set_cons_zero, List.set_cons_succ, Option.toList_some, Option.toList_none, List.cons_append, List.nil_append]
    refine AW.loop (pc := 37) (σ := Bool) 26 (fun c bb => [vR 12 243, vI (nI w), vI x, vI (nI i), vI (nI (σ (10 + w) i)), vI (if bb then 1 else 0), vI (nI c)]) (fun c bb m2 => (∃ c, FrS (mUp m 244 (10 * w + i) c) m2) ∧ (∀ v, v < σ 0 1 → v ≠ w → RMs m2 v (saidS σ (rowL σ) v)) ∧ (bb = true → ∀ e, e < c → safeC σ w i e) ∧ (bb = false → ¬ ∀ c, c < 26 → safeC σ w i c)) (fun c bb m2 hc26 hm2 ih2 => ?_) 0 true m1 (Nat.zero_le _) ⟨⟨m 244 (10 * w + i), fun a h1 h2 h3 h4 h5 => ?_, fun k hk => by rw [hf.2 k hk, mUp_a (by decide)]⟩, hot, fun _ e he => absurd he (by omega), fun q => by cases q⟩
    · obtain ⟨⟨c0, hf2⟩, hot2, hbt, hbf⟩ := hm2
      repeat refine AW.s rfl ?_
      try dsimp only [List.set_cons_zero, List.set_cons_succ, Option.toList_some, Option.toList_none, List.cons_append, List.nil_append]
      refine AW.b rfl (fun hc => ?_) (fun hc => ?_)
      · have hlc : c < 26 := (nI_ltI (b := 26) (by omega) (by decide)).mp hc
        repeat refine AW.s rfl ?_
        try dsimp only [List.set_cons_zero, List.set_cons_succ, Option.toList_some, Option.toList_none, List.cons_append, List.nil_append]
        cases bb with
        | false =>
          refine AW.b rfl (fun hc => ?_) (fun hc => ?_)
          · exact fin false _ m2 ⟨fun q => (by cases q), fun q => absurd q (hbf rfl)⟩ ⟨c0, hf2⟩ hot2
          · exact absurd rfl hc
        | true =>
          have hbt := hbt rfl
          refine AW.b rfl (fun hc => ?_) (fun hc => ?_)
          · exact absurd (show (1 : Int32) = 0 from hc) (by decide)
          · repeat refine AW.s rfl ?_
            try dsimp only [List.set_cons_zero, List.set_cons_succ, Option.toList_some, Option.toList_none, List.cons_append, List.nil_append]
            rw [show (10 : Int32) * nI w = nI (10 * w) from pk_mul 10 w, nI_add]
            refine AW.c rfl (⟨vp_in_nI (by omega) (by decide), fun z => absurd z (by decide)⟩) ?_
            try dsimp only [List.set_cons_zero, List.set_cons_succ, Option.toList_some, Option.toList_none, List.cons_append, List.nil_append]
            rw [nI_clamp (by omega)]
            have hf3 : FrS (mUp m 244 (10 * w + i) (nI c)) (mUp m2 (243 + 1) (10 * w + i) (nI c)) := by
              refine ⟨fun a h1 h2 h3 h4 h5 => ?_, fun k hk => by rw [mUp_a (by decide), mUp_a (by decide), hf2.2 k hk, mUp_a (by decide)]⟩
              by_cases e : a = 244
              · subst e
                funext k
                by_cases e2 : k = 10 * w + i
                · subst e2; rw [mUp_s, mUp_s]
                · rw [mUp_n (Or.inr e2), mUp_n (Or.inr e2), hf2.1 244 (by decide) (by decide) (by decide) (by decide) (by decide), mUp_n (Or.inr e2)]
              · rw [mUp_a e, mUp_a e, hf2.1 a h1 h2 h3 h4 h5, mUp_a e]
            have hot3 : ∀ v, v < σ 0 1 → v ≠ w → RMs (mUp m2 (243 + 1) (10 * w + i) (nI c)) v (saidS σ (rowL σ) v) := fun v hv hne => (hot2 v hv hne).fr (saidS_wf hσ (rowL_wf hσ) hv) (by rw [mUp_a (by decide)]) (fun k _ => by rw [mUp_a (by decide)])
            repeat refine AW.s rfl ?_
            try dsimp only [List.set_cons_zero, List.set_cons_succ, Option.toList_some, Option.toList_none, List.cons_append, List.nil_append]
            refine AW.b rfl (fun hc => ?_) (fun hc => ?_)
            · have e : c = σ (10 + w) i := (nI_eq (by omega) (by omega)).mp hc
              repeat refine AW.u 37 rfl rfl ?_
              try dsimp only [List.set_cons_zero, List.set_cons_succ, Option.toList_some, Option.toList_none, List.cons_append, List.nil_append]
              rw [nI_1]
              refine ih2 true _ hlc ⟨⟨_, hf3⟩, hot3, fun _ e2 he2 => ?_, fun q => by cases q⟩
              by_cases e3 : e2 = c
              · rw [e3]; exact Or.inl e
              · exact hbt e2 (by omega)
            · have e : ¬ c = σ (10 + w) i := fun q => hc (by rw [q])
              have hσ2 := hσ.uL (w := w) (i := i) hlc
              have hs2 : RepM (mUp m2 (243 + 1) (10 * w + i) (nI c)) (sU σ (10 + w) i c) := (hs.uL hσ (by omega)).S hf3
              have hro : rowL (sU σ (10 + w) i c) = rowL σ := rowL_o (by omega) (by omega)
              have hW2 : sU σ (10 + w) i c 0 1 = σ 0 1 := sU_o (by omega)
              repeat refine AW.s rfl ?_
              try dsimp only [List.set_cons_zero, List.set_cons_succ, Option.toList_some, Option.toList_none, List.cons_append, List.nil_append]
              refine AW.V k_11_238 ((c_Msay (w := w) (by omega) hs2 hσ2 (by rw [hW2]; exact hw))) rfl rfl rfl rfl rfl rfl (fun r1 m3 hq => ?_)
              obtain ⟨rfl, p1, p2, p3⟩ := hq
              rw [hro] at p1
              have hwf2 : WFo (saidS (sU σ (10 + w) i c) (rowL σ) w) := by
                rw [← hro]
                exact saidS_wf hσ2 (rowL_wf hσ2) (by rw [hW2]; exact hw)
              have hot4 : ∀ v, v < σ 0 1 → v ≠ w → RMs m3 v (saidS σ (rowL σ) v) := fun v hv hne => (hot3 v hv hne).fr (saidS_wf hσ (rowL_wf hσ) hv) (p3 v hne).1 (p3 v hne).2
              repeat refine AW.s rfl ?_
              try dsimp only [List.set_cons_zero, List.set_cons_succ, Option.toList_some, Option.toList_none, List.cons_append, List.nil_append]
              refine AW.V k_11_255 ((c_Malike (n := σ 0 1) (f := fun j => if j = w then saidS (sU σ (10 + w) i c) (rowL σ) w else saidS σ (rowL σ) j) (by omega) h8 (by rw [p2.2 1 (by decide), mUp_a (by decide), hf2.2 1 (by decide), mUp_a (by decide)]; exact hs.2.1) (fun v hv => ?_) (fun v hv => ?_))) rfl rfl rfl rfl rfl rfl (fun r1 m4 hq => ?_)
              · by_cases e2 : v = w
                · subst e2; rw [if_pos rfl]; exact p1
                · rw [if_neg e2]; exact hot4 v hv e2
              · by_cases e2 : v = w
                · rw [if_pos e2]; exact hwf2
                · rw [if_neg e2]; exact saidS_wf hσ (rowL_wf hσ) hv
              · obtain ⟨a, rfl, ha, hm4⟩ := hq
                rw [hm4]
                have hg := ha.getS (k := w) (by omega)
                have hiff : alikeP (σ 0 1) (fun j => if j = w then saidS (sU σ (10 + w) i c) (rowL σ) w else saidS σ (rowL σ) j) w ↔ ∃ j, j < σ 0 1 ∧ j ≠ w ∧ likeO (saidS (sU σ (10 + w) i c) (rowL σ) w) (saidS σ (rowL σ) j) = true := by
                  unfold alikeP
                  constructor
                  · rintro ⟨-, j, j1, j2, j3⟩
                    dsimp only at j3
                    rw [if_pos rfl, if_neg j2] at j3
                    exact ⟨j, j1, j2, j3⟩
                  · rintro ⟨j, j1, j2, j3⟩
                    refine ⟨hw, j, j1, j2, ?_⟩
                    dsimp only
                    rw [if_pos rfl, if_neg j2]
                    exact j3
                repeat refine AW.s rfl ?_
                try dsimp only [List.set_cons_zero, List.set_cons_succ, Option.toList_some, Option.toList_none, List.cons_append, List.nil_append]
                by_cases q : alikeP (σ 0 1) (fun j => if j = w then saidS (sU σ (10 + w) i c) (rowL σ) w else saidS σ (rowL σ) j) w
                · rw [hg.1 q]
                  refine AW.b rfl (fun hc => ?_) (fun hc => ?_)
                  · exact absurd hc (by decide)
                  · repeat refine AW.u 37 rfl rfl ?_
                    try dsimp only [List.set_cons_zero, List.set_cons_succ, Option.toList_some, Option.toList_none, List.cons_append, List.nil_append]
                    rw [nI_1]
                    refine ih2 false _ hlc ⟨⟨_, hf3.tr p2⟩, hot4, fun q => (by cases q), fun _ z => ?_⟩
                    rcases z c hlc with z | z
                    · exact e z
                    · exact z (hiff.mp q)
                · rw [hg.2 q]
                  refine AW.b rfl (fun hc => ?_) (fun hc => ?_)
                  · repeat refine AW.u 37 rfl rfl ?_
                    try dsimp only [List.set_cons_zero, List.set_cons_succ, Option.toList_some, Option.toList_none, List.cons_append, List.nil_append]
                    rw [nI_1]
                    refine ih2 true _ hlc ⟨⟨_, hf3.tr p2⟩, hot4, fun _ e2 he2 => ?_, fun q => by cases q⟩
                    by_cases e3 : e2 = c
                    · rw [e3]; exact Or.inr (fun z => q (hiff.mpr z))
                    · exact hbt e2 (by omega)
                  · exact absurd rfl hc
      · have : c = 26 := by
          have : ¬ c < 26 := fun q => hc (nI_lt (b := 26) q (by decide))
          omega
        subst this
        cases bb with
        | true => exact fin true _ m2 ⟨fun _ => hbt rfl, fun _ => rfl⟩ ⟨c0, hf2⟩ hot2
        | false => exact fin false _ m2 ⟨fun q => (by cases q), fun q => absurd q (hbf rfl)⟩ ⟨c0, hf2⟩ hot2
    · rw [hf.1 a h1 h2 h3 h4 h5]
      by_cases e : a = 244
      · subst e
        funext k
        by_cases e2 : k = 10 * w + i
        · subst e2; exact (mUp_s _ _ _ _).symm
        · exact (mUp_n (Or.inr e2)).symm
      · exact (mUp_a e).symm
  · have : i = σ 1 w := by
      have : ¬ i < σ 1 w := fun q => hc ((nI_ltI (by omega) (by omega)).mpr q)
      omega
    subst this
    repeat refine AW.s rfl ?_
    try dsimp only [List.set_cons_zero, List.set_cons_succ, Option.toList_some, Option.toList_none, List.cons_append, List.nil_append]
    exact AW.ri rfl rfl rfl ⟨_, rfl, hb, hf.M⟩
theorem M_of {a b : Int32} (hd : 7 ≤ d) (hW : WO Ω) (hI : InvM m Ω) : Meth l X d M_X11_of [vR 12 243, vI a, vI b] m (fun r m' => ∃ x, r = some (vI x) ∧ ofR Ω a b x ∧ FrM m m') := by
  obtain ⟨d, rfl⟩ : ∃ e, d = e + 1 := ⟨d - 1, by omega⟩
  have h1 := hW.1.2.1
  have hl6 : (oG Ω) 0 4 < 6 := hW.1.2.2.2.2.1
  refine E_X11_of (ls := [vR 12 243, vI a, vI b]) rfl rfl ?_
  repeat refine AW.s rfl ?_
  try dsimp only [List.set_cons_zero, List.set_cons_succ, Option.toList_some, Option.toList_none, List.cons_append, List.nil_append]
  refine AW.V k_11_58 ((c_Mword (by omega) hI.1 hW.1)) rfl rfl rfl rfl rfl rfl (fun r1 m9 hq => ?_)
  obtain ⟨rfl, hm9⟩ := hq
  rw [hm9]
  try dsimp only [List.set_cons_zero, List.set_cons_succ, Option.toList_some, Option.toList_none, List.cons_append, List.nil_append]
  by_cases q1 : hB a ((oG Ω) 0 1) = 1
  · rw [q1]
    obtain ⟨w, hw, rfl⟩ := (hB_1 (by omega)).mp q1
    refine AW.b rfl (fun hc => ?_) (fun hc => ?_)
    · exact absurd hc (by decide)
    · repeat refine AW.s rfl ?_
      try dsimp only [List.set_cons_zero, List.set_cons_succ, Option.toList_some, Option.toList_none, List.cons_append, List.nil_append]
      refine AW.S k_11_7 (c_in0) rfl rfl rfl rfl (fun r1 m8 hq => ?_)
      obtain ⟨rfl, hm8⟩ := hq
      rw [hm8]
      try dsimp only [List.set_cons_zero, List.set_cons_succ, Option.toList_some, Option.toList_none, List.cons_append, List.nil_append]
      by_cases q2 : wB b 4 = 1
      · rw [q2]
        obtain ⟨p, hp, rfl⟩ := (wB_1 (n := 4) (by decide)).mp q2
        refine AW.b rfl (fun hc => ?_) (fun hc => ?_)
        · exact absurd hc (by decide)
        · repeat refine AW.s rfl ?_
          try dsimp only [List.set_cons_zero, List.set_cons_succ, Option.toList_some, Option.toList_none, List.cons_append, List.nil_append]
          refine AW.b rfl (fun hc => ?_) (fun hc => ?_)
          · have hp2 : 2 < p := (nI_ltI (a := 2) (by decide) (by omega)).mp hc
            repeat refine AW.s rfl ?_
            try dsimp only [List.set_cons_zero, List.set_cons_succ, Option.toList_some, Option.toList_none, List.cons_append, List.nil_append]
            refine AW.b rfl (fun hc => ?_) (fun hc => ?_)
            · have e : p = 3 := (nI_eq (b := 3) (by omega) (by decide)).mp hc
              subst e
              repeat refine AW.s rfl ?_
              try dsimp only [List.set_cons_zero, List.set_cons_succ, Option.toList_some, Option.toList_none, List.cons_append, List.nil_append]
              refine AW.V k_11_265 ((c_Mround (by omega) hI.1 hW.1 hw)) rfl rfl rfl rfl rfl rfl (fun r1 m7 hq => ?_)
              obtain ⟨rfl, fr⟩ := hq
              repeat refine AW.s rfl ?_
              try dsimp only [List.set_cons_zero, List.set_cons_succ, Option.toList_some, Option.toList_none, List.cons_append, List.nil_append]
              exact AW.ri rfl rfl rfl ⟨_, rfl, Or.inl ⟨w, hw, rfl, Or.inr (Or.inl ⟨rfl, rfl⟩)⟩, fr.M⟩
            · have e : p = 4 := by
                have : ¬ p = 3 := fun q => hc (by rw [q]; rfl)
                omega
              subst e
              repeat refine AW.s rfl ?_
              try dsimp only [List.set_cons_zero, List.set_cons_succ, Option.toList_some, Option.toList_none, List.cons_append, List.nil_append]
              refine AW.V k_11_268 ((c_Msafe (by omega) hI.1 hW.1 hw)) rfl rfl rfl rfl rfl rfl (fun r1 m7 hq => ?_)
              obtain ⟨x, rfl, hx, fr⟩ := hq
              repeat refine AW.s rfl ?_
              try dsimp only [List.set_cons_zero, List.set_cons_succ, Option.toList_some, Option.toList_none, List.cons_append, List.nil_append]
              exact AW.ri rfl rfl rfl ⟨_, rfl, Or.inl ⟨w, hw, rfl, Or.inr (Or.inr (Or.inl ⟨rfl, hx⟩))⟩, fr⟩
          · have hp2 : p < 3 := by
              have : ¬ 2 < p := fun q => hc (nI_lt (a := 2) q (by omega))
              omega
            repeat refine AW.s rfl ?_
            try dsimp only [List.set_cons_zero, List.set_cons_succ, Option.toList_some, Option.toList_none, List.cons_append, List.nil_append]
            refine AW.V k_11_238 ((c_Msay (by omega) hI.1 hW.1 hw)) rfl rfl rfl rfl rfl rfl (fun r1 m7 hq => ?_)
            obtain ⟨rfl, p1, p2, p3⟩ := hq
            have hI2 := hI.fr p2.M
            obtain ⟨css, c1, c2⟩ := hI2.law hW.2.2.1
            have hwo := saidS_wf hW.1 (rowL_wf hW.1) hw
            have rel : ∀ x, x = jdgV (oG Ω) (oV Ω ((oG Ω) 0 4)) w p → ofR Ω (nI w) (nI p) x := fun x hx => Or.inl ⟨w, hw, rfl, Or.inl ⟨p, hp2, rfl, hx⟩⟩
            repeat refine AW.s rfl ?_
            try dsimp only [List.set_cons_zero, List.set_cons_succ, Option.toList_some, Option.toList_none, List.cons_append, List.nil_append]
            refine AW.b rfl (fun hc => ?_) (fun hc => ?_)
            · have e : p = 0 := (nI_eq (b := 0) (by omega) (by decide)).mp hc
              subst e
              repeat refine AW.s rfl ?_
              try dsimp only [List.set_cons_zero, List.set_cons_succ, Option.toList_some, Option.toList_none, List.cons_append, List.nil_append]
              refine AW.V k_11_259 ((c_MhardOf (by omega) hI2.1 hW.1 hw p1 hwo (c1 0 (by decide)))) rfl rfl rfl rfl rfl rfl (fun r1 m6 hq => ?_)
              obtain ⟨rfl, f6⟩ := hq
              repeat refine AW.s rfl ?_
              try dsimp only [List.set_cons_zero, List.set_cons_succ, Option.toList_some, Option.toList_none, List.cons_append, List.nil_append]
              refine AW.ri rfl rfl rfl ⟨_, rfl, rel _ ?_, p2.M.tr ⟨fun q hq => f6 q (by omega) (by omega), fun k hk => by rw [f6 243 (by decide) (by decide)]⟩⟩
              unfold jdgV
              cases saidS (oG Ω) (rowL (oG Ω)) w with
              | none => rfl
              | some xs =>
                show hardV (oG Ω) (rowL (oG Ω)) (clI (mvl (fctV (oG Ω) (rowL (oG Ω)) w xs) (css 0))) = _
                rw [c2 0 (by decide)]
                rfl
            · have e : ¬ p = 0 := fun q => hc (by rw [q]; rfl)
              repeat refine AW.s rfl ?_
              try dsimp only [List.set_cons_zero, List.set_cons_succ, Option.toList_some, Option.toList_none, List.cons_append, List.nil_append]
              refine AW.c rfl (vp_in_nI (by omega) (by decide)) ?_
              try dsimp only [List.set_cons_zero, List.set_cons_succ, Option.toList_some, Option.toList_none, List.cons_append, List.nil_append]
              rw [nI_clamp (by omega)]
              cases hoo : saidS (oG Ω) (rowL (oG Ω)) w with
              | none =>
                rw [hoo] at p1
                rw [show m7 (243 + 18) w = -3 from p1]
                repeat refine AW.s rfl ?_
                try dsimp only [List.set_cons_zero, List.set_cons_succ, Option.toList_some, Option.toList_none, List.cons_append, List.nil_append]
                refine AW.b rfl (fun hc => ?_) (fun hc => ?_)
                · repeat refine AW.s rfl ?_
                  try dsimp only [List.set_cons_zero, List.set_cons_succ, Option.toList_some, Option.toList_none, List.cons_append, List.nil_append]
                  exact AW.ri rfl rfl rfl ⟨_, rfl, rel _ (by unfold jdgV; rw [hoo]), p2.M⟩
                · exact absurd rfl hc
              | some xs =>
                rw [hoo] at p1 hwo
                obtain ⟨g1, g2, g3⟩ := hwo xs rfl
                rw [show m7 (243 + 18) w = nI xs.length from p1.1]
                repeat refine AW.s rfl ?_
                try dsimp only [List.set_cons_zero, List.set_cons_succ, Option.toList_some, Option.toList_none, List.cons_append, List.nil_append]
                refine AW.b rfl (fun hc => ?_) (fun hc => ?_)
                · exact absurd (by rw [← hc]; exact nI_pos (by omega) : ¬ (-3 : Int32) < 0) (by decide)
                · repeat refine AW.s rfl ?_
                  try dsimp only [List.set_cons_zero, List.set_cons_succ, Option.toList_some, Option.toList_none, List.cons_append, List.nil_append]
                  refine AW.V k_11_249 ((c_Msays (by omega) hI2.1 hW.1 hp2 hw p1 hwo (c1 p hp2))) rfl rfl rfl rfl rfl rfl (fun r1 m6 hq => ?_)
                  obtain ⟨rfl, f6⟩ := hq
                  repeat refine AW.s rfl ?_
                  try dsimp only [List.set_cons_zero, List.set_cons_succ, Option.toList_some, Option.toList_none, List.cons_append, List.nil_append]
                  refine AW.ri rfl rfl rfl ⟨_, rfl, rel _ ?_, p2.M.tr ⟨fun q hq => f6 q (by omega) (by omega), fun k hk => by rw [f6 243 (by decide) (by decide)]⟩⟩
                  unfold jdgV
                  rw [hoo]
                  show clI (mvl (fctV (oG Ω) (rowL (oG Ω)) w xs) (css p)) = if p = 0 then _ else _
                  rw [if_neg e, c2 p hp2]
      · rw [wB_0 q2]
        refine AW.b rfl (fun hc => ?_) (fun hc => ?_)
        · repeat refine AW.s rfl ?_
          try dsimp only [List.set_cons_zero, List.set_cons_succ, Option.toList_some, Option.toList_none, List.cons_append, List.nil_append]
          refine AW.ri rfl rfl rfl ⟨_, rfl, Or.inl ⟨w, hw, rfl, Or.inr (Or.inr (Or.inr ⟨fun p hp e => q2 ?_, rfl⟩))⟩, FrM.rf⟩
          rw [e]
          exact (wB_1 (n := 4) (by decide)).mpr ⟨p, hp, rfl⟩
        · exact absurd rfl hc
  · rw [hB_0 q1]
    refine AW.b rfl (fun hc => ?_) (fun hc => ?_)
    · repeat refine AW.s rfl ?_
      try dsimp only [List.set_cons_zero, List.set_cons_succ, Option.toList_some, Option.toList_none, List.cons_append, List.nil_append]
      exact AW.ri rfl rfl rfl ⟨_, rfl, Or.inr ⟨fun q => q1 ((hB_1 (by omega)).mpr q), rfl⟩, FrM.rf⟩
    · exact absurd rfl hc
theorem diffN_comm (xs : List Nat) : ∀ ys, diffN xs ys = diffN ys xs := by
  unfold diffN
  induction xs with
  | nil => intro ys; cases ys <;> rfl
  | cons a r ih =>
    intro ys
    cases ys with
    | nil => rfl
    | cons b s =>
      rw [List.zip_cons_cons, List.zip_cons_cons, List.countP_cons, List.countP_cons, ih s]
      congr 1
      have : (a == b) = (b == a) := by rw [Bool.eq_iff_iff, beq_iff_eq, beq_iff_eq]; exact ⟨fun h => h.symm, fun h => h.symm⟩
      simp [this]
/-- pairs that the model has looked at -/
def apM (n : Nat) (f : Nat → Option (List Nat)) (v w d : Nat) : Prop := ∃ p q, p < q ∧ q < n ∧ (q < v ∨ (q = v ∧ p < w)) ∧ apD f p q d
theorem c_Mapart {n : Nat} {f : Nat → Option (List Nat)} (hn : n ≤ 8) (hN : m 243 1 = nI n) (hK : ∀ w, w < n → RMs m w (f w)) (hfw : ∀ w, w < n → WFo (f w)) : Meth l X d M_X11_apart [vR 12 243] m (fun r1 m' => ∃ x, r1 = some (vI x) ∧ isLeast (fun d => ∃ p q, p < q ∧ q < n ∧ apD f p q d) x ∧ m' = m) := by
  refine E_X11_apart (ls := [vR 12 243, vU, vU, vU, vU, vU]) rfl rfl ?_
  repeat refine AW.u 4 rfl rfl ?_
  try dsimp only [List.set_cons_zero, List.set_cons_succ, Option.toList_some, Option.toList_none, List.cons_append, List.nil_append]
  refine AW.loop (pc := 4) (σ := Int32) n (fun v x => [vR 12 243, vI x, vI (nI v), vU, vU, vU]) (fun v x m1 => m1 = m ∧ isLeast (apM n f v 0) x) (fun v x m1 hv hm1 ih => ?_) 0 (-1) m (Nat.zero_le _) ⟨rfl, Or.inl ⟨rfl, fun d ⟨p, q, a1, a2, a3, a4⟩ => by omega⟩⟩
  obtain ⟨rfl, hx⟩ := hm1
  repeat refine AW.s rfl ?_
  try dsimp only [List.set_cons_zero, List.set_cons_succ, Option.toList_some, Option.toList_none, List.cons_append, List.nil_append]
  rw [hN]
  refine AW.b rfl (fun hc => ?_) (fun hc => ?_)
  · have hlv : v < n := (nI_ltI (by omega) (by omega)).mp hc
    repeat refine AW.u 14 rfl rfl ?_
    try dsimp only [List.set_cons_zero, List.set_cons_succ, Option.toList_some, Option.toList_none, List.cons_append, List.nil_append]
    refine AW.loop (pc := 14) (σ := Int32) v (fun w x => [vR 12 243, vI x, vI (nI v), vI (nI w), vU, vU]) (fun w x m2 => m2 = m1 ∧ isLeast (apM n f v w) x) (fun w x m2 hw hm2 ih2 => ?_) 0 x m1 (Nat.zero_le _) ⟨rfl, hx⟩
    obtain ⟨rfl, hx2⟩ := hm2
    repeat refine AW.s rfl ?_
    try dsimp only [List.set_cons_zero, List.set_cons_succ, Option.toList_some, Option.toList_none, List.cons_append, List.nil_append]
    refine AW.b rfl (fun hc => ?_) (fun hc => ?_)
    · have hlw : w < v := (nI_ltI (by omega) (by omega)).mp hc
      -- this pair says nothing
      have skip : (¬ ∃ xs ys, f w = some xs ∧ f v = some ys ∧ xs.length = ys.length) → ∀ y z : AV, AW (GM l X d M_X11_apart (fun r1 m' => ∃ x, r1 = some (vI x) ∧ isLeast (fun d => ∃ p q, p < q ∧ q < n ∧ apD f p q d) x ∧ m' = m2)) 123 [vR 12 243, vI x, vI (nI v), vI (nI w), y, z] [] m2 := by
        intro hno y z
        repeat refine AW.u 14 rfl rfl ?_
        try dsimp only [List.set_cons_zero, List.set_cons_succ, Option.toList_some, Option.toList_none, List.cons_append, List.nil_append]
        refine AW.fg 4 ?_
        refine AW.fg 5 ?_
        try dsimp only [List.set_cons_zero, List.set_cons_succ, Option.toList_some, Option.toList_none, List.cons_append, List.nil_append]
        rw [nI_1]
        refine ih2 _ m2 hlw ⟨rfl, hx2.to (fun d => ⟨?_, ?_⟩)⟩
        · rintro ⟨p, q, a1, a2, a3, a4⟩; exact ⟨p, q, a1, a2, by omega, a4⟩
        · rintro ⟨p, q, a1, a2, a3, a4⟩
          by_cases e : q = v ∧ p = w
          · obtain ⟨e1, e2⟩ := e
            subst e1; subst e2
            obtain ⟨xs, ys, b1, b2, b3, -⟩ := a4
            exact absurd ⟨xs, ys, b1, b2, b3⟩ hno
          · exact ⟨p, q, a1, a2, by omega, a4⟩
      have hv1 := hK v hlv
      have hw1 := hK w (by omega)
      have gv := hfw v hlv
      have gw := hfw w (by omega)
      repeat refine AW.s rfl ?_
      try dsimp only [List.set_cons_zero, List.set_cons_succ, Option.toList_some, Option.toList_none, List.cons_append, List.nil_append]
      refine AW.c rfl (vp_in_nI (by omega) (by decide)) ?_
      try dsimp only [List.set_cons_zero, List.set_cons_succ, Option.toList_some, Option.toList_none, List.cons_append, List.nil_append]
      rw [nI_clamp (by omega)]
      repeat refine AW.s rfl ?_
      try dsimp only [List.set_cons_zero, List.set_cons_succ, Option.toList_some, Option.toList_none, List.cons_append, List.nil_append]
      refine AW.c rfl (vp_in_nI (by omega) (by decide)) ?_
      try dsimp only [List.set_cons_zero, List.set_cons_succ, Option.toList_some, Option.toList_none, List.cons_append, List.nil_append]
      rw [nI_clamp (by omega)]
      cases hfv : f v with
      | none =>
        rw [hfv] at hv1
        rw [show m2 (243 + 18) v = -3 from hv1]
        refine AW.b rfl (fun hc => ?_) (fun hc => ?_)
        · repeat refine AW.s rfl ?_
          try dsimp only [List.set_cons_zero, List.set_cons_succ, Option.toList_some, Option.toList_none, List.cons_append, List.nil_append]
          refine AW.c rfl (vp_in_nI (by omega) (by decide)) ?_
          try dsimp only [List.set_cons_zero, List.set_cons_succ, Option.toList_some, Option.toList_none, List.cons_append, List.nil_append]
          rw [nI_clamp (by omega), show m2 (243 + 18) v = -3 from hv1]
          repeat refine AW.s rfl ?_
          try dsimp only [List.set_cons_zero, List.set_cons_succ, Option.toList_some, Option.toList_none, List.cons_append, List.nil_append]
          refine AW.b rfl (fun hc => ?_) (fun hc => ?_)
          · exact skip (fun ⟨xs, ys, _, b2, _⟩ => by rw [hfv] at b2; cases b2) _ _
          · exact absurd rfl hc
        · exact skip (fun ⟨xs, ys, _, b2, _⟩ => by rw [hfv] at b2; cases b2) _ _
      | some ys =>
        rw [hfv] at hv1 gv
        obtain ⟨y1, y2, y3⟩ := gv ys rfl
        rw [show m2 (243 + 18) v = nI ys.length from hv1.1]
        cases hfw2 : f w with
        | none =>
          rw [hfw2] at hw1
          rw [show m2 (243 + 18) w = -3 from hw1]
          refine AW.b rfl (fun hc => ?_) (fun hc => ?_)
          · exact absurd (by rw [← hc]; exact nI_pos (by omega) : ¬ (-3 : Int32) < 0) (by decide)
          · exact skip (fun ⟨xs, ys, b1, _, _⟩ => by rw [hfw2] at b1; cases b1) _ _
        | some xs =>
          rw [hfw2] at hw1 gw
          obtain ⟨x1, x2, x3⟩ := gw xs rfl
          rw [show m2 (243 + 18) w = nI xs.length from hw1.1]
          refine AW.b rfl (fun hc => ?_) (fun hc => ?_)
          · have hlen : ys.length = xs.length := (nI_eq (by omega) (by omega)).mp hc
            repeat refine AW.s rfl ?_
            try dsimp only [List.set_cons_zero, List.set_cons_succ, Option.toList_some, Option.toList_none, List.cons_append, List.nil_append]
            refine AW.c rfl (vp_in_nI (by omega) (by decide)) ?_
            try dsimp only [List.set_cons_zero, List.set_cons_succ, Option.toList_some, Option.toList_none, List.cons_append, List.nil_append]
            rw [nI_clamp (by omega), show m2 (243 + 18) v = nI ys.length from hv1.1]
            repeat refine AW.s rfl ?_
            try dsimp only [List.set_cons_zero, List.set_cons_succ, Option.toList_some, Option.toList_none, List.cons_append, List.nil_append]
            refine AW.b rfl (fun hc => ?_) (fun hc => ?_)
            · exact absurd (by rw [← hc]; exact nI_pos (by omega) : ¬ (-3 : Int32) < 0) (by decide)
            · repeat refine AW.u 51 rfl rfl ?_
              try dsimp only [List.set_cons_zero, List.set_cons_succ, Option.toList_some, Option.toList_none, List.cons_append, List.nil_append]
              refine AW.loop (pc := 51) (σ := Unit) ys.length (fun k _ => [vR 12 243, vI x, vI (nI v), vI (nI w), vI (nI (diffN (ys.take k) (xs.take k))), vI (nI k)]) (fun k _ m3 => m3 = m2) (fun k _ m3 hk hm3 ih3 => ?_) 0 () m2 (Nat.zero_le _) rfl
              subst hm3
              have hdl := diffN_le (ys.take k) (xs.take k)
              rw [List.length_take] at hdl
              repeat refine AW.s rfl ?_
              try dsimp only [List.set_cons_zero, List.set_cons_succ, Option.toList_some, Option.toList_none, List.cons_append, List.nil_append]
              refine AW.c rfl (vp_in_nI (by omega) (by decide)) ?_
              try dsimp only [List.set_cons_zero, List.set_cons_succ, Option.toList_some, Option.toList_none, List.cons_append, List.nil_append]
              rw [nI_clamp (by omega), show m3 (243 + 18) v = nI ys.length from hv1.1]
              refine AW.b rfl (fun hc => ?_) (fun hc => ?_)
              · have hlk : k < ys.length := (nI_ltI (by omega) (by omega)).mp hc
                obtain ⟨y, hy⟩ : ∃ y, ys[k]? = some y := ⟨_, List.getElem?_eq_getElem hlk⟩
                obtain ⟨z, hz⟩ : ∃ z, xs[k]? = some z := ⟨_, List.getElem?_eq_getElem (by omega)⟩
                have hy26 := y1 y (List.mem_of_getElem? hy)
                have hz26 := x1 z (List.mem_of_getElem? hz)
                have ht := diffN_take hy hz
                repeat refine AW.s rfl ?_
                try dsimp only [List.set_cons_zero, List.set_cons_succ, Option.toList_some, Option.toList_none, List.cons_append, List.nil_append]
                rw [show (40 : Int32) * nI v = nI (40 * v) from pk_mul 40 v, nI_add]
                refine AW.c rfl (vp_in_nI (by omega) (by decide)) ?_
                try dsimp only [List.set_cons_zero, List.set_cons_succ, Option.toList_some, Option.toList_none, List.cons_append, List.nil_append]
                rw [nI_clamp (by omega), show m3 (243 + 17) (40 * v + k) = nI y from hv1.2 k y hy]
                repeat refine AW.s rfl ?_
                try dsimp only [List.set_cons_zero, List.set_cons_succ, Option.toList_some, Option.toList_none, List.cons_append, List.nil_append]
                rw [show (40 : Int32) * nI w = nI (40 * w) from pk_mul 40 w, nI_add]
                refine AW.c rfl (vp_in_nI (by omega) (by decide)) ?_
                try dsimp only [List.set_cons_zero, List.set_cons_succ, Option.toList_some, Option.toList_none, List.cons_append, List.nil_append]
                rw [nI_clamp (by omega), show m3 (243 + 17) (40 * w + k) = nI z from hw1.2 k z hz]
                refine AW.b rfl (fun hc => ?_) (fun hc => ?_)
                · have e : y = z := (nI_eq (by omega) (by omega)).mp hc
                  rw [if_pos e] at ht
                  have ih3 := ih3 () m3 hlk rfl
                  rw [ht] at ih3
                  repeat refine AW.u 51 rfl rfl ?_
                  try dsimp only [List.set_cons_zero, List.set_cons_succ, Option.toList_some, Option.toList_none, List.cons_append, List.nil_append]
                  rw [nI_1, show nI (diffN (ys.take k) (xs.take k)) + 0 = nI (diffN (ys.take k) (xs.take k) + 0) from nI_add _ 0]
                  exact ih3
                · have e : ¬ y = z := fun q => hc (by rw [q])
                  rw [if_neg e] at ht
                  have ih3 := ih3 () m3 hlk rfl
                  rw [ht] at ih3
                  repeat refine AW.u 51 rfl rfl ?_
                  try dsimp only [List.set_cons_zero, List.set_cons_succ, Option.toList_some, Option.toList_none, List.cons_append, List.nil_append]
                  rw [nI_1, nI_1]
                  exact ih3
              · have : k = ys.length := by
                  have : ¬ k < ys.length := fun q => hc ((nI_ltI (by omega) (by omega)).mpr q)
                  omega
                subst this
                rw [List.take_of_length_le (Nat.le_refl _), List.take_of_length_le (by omega)] at hdl ⊢
                have hD : apD f w v (diffN ys xs) := ⟨xs, ys, hfw2, hfv, hlen.symm, diffN_comm _ _⟩
                have nxt : isLeast (apM n f v (w + 1)) (if x = -1 then nI (diffN ys xs) else if nI (diffN ys xs) < x then nI (diffN ys xs) else x) := by
                  refine (hx2.add (d := diffN ys xs) (by omega)).to (fun d => ⟨?_, ?_⟩)
                  · rintro (⟨p, q, a1, a2, a3, a4⟩ | rfl)
                    · exact ⟨p, q, a1, a2, by omega, a4⟩
                    · exact ⟨w, v, hlw, hlv, by omega, hD⟩
                  · rintro ⟨p, q, a1, a2, a3, a4⟩
                    by_cases e : q = v ∧ p = w
                    · obtain ⟨e1, e2⟩ := e
                      subst e1; subst e2
                      obtain ⟨xs', ys', b1, b2, b3, b4⟩ := a4
                      rw [hfw2] at b1
                      rw [hfv] at b2
                      cases b1; cases b2
                      right
                      rw [b4, diffN_comm]
                    · exact Or.inl ⟨p, q, a1, a2, by omega, a4⟩
                repeat refine AW.s rfl ?_
                try dsimp only [List.set_cons_zero, List.set_cons_succ, Option.toList_some, Option.toList_none, List.cons_append, List.nil_append]
                refine AW.b rfl (fun hc => ?_) (fun hc => ?_)
                · have e : x = -1 := hc
                  rw [if_pos e] at nxt
                  repeat refine AW.u 14 rfl rfl ?_
                  try dsimp only [List.set_cons_zero, List.set_cons_succ, Option.toList_some, Option.toList_none, List.cons_append, List.nil_append]
                  refine AW.fg 4 ?_
                  refine AW.fg 5 ?_
                  try dsimp only [List.set_cons_zero, List.set_cons_succ, Option.toList_some, Option.toList_none, List.cons_append, List.nil_append]
                  rw [nI_1]
                  exact ih2 _ m3 hlw ⟨rfl, nxt⟩
                · have e : ¬ x = -1 := hc
                  rw [if_neg e] at nxt
                  repeat refine AW.s rfl ?_
                  try dsimp only [List.set_cons_zero, List.set_cons_succ, Option.toList_some, Option.toList_none, List.cons_append, List.nil_append]
                  refine AW.b rfl (fun hc => ?_) (fun hc => ?_)
                  · rw [if_pos hc] at nxt
                    repeat refine AW.u 14 rfl rfl ?_
                    try dsimp only [List.set_cons_zero, List.set_cons_succ, Option.toList_some, Option.toList_none, List.cons_append, List.nil_append]
                    refine AW.fg 4 ?_
                    refine AW.fg 5 ?_
                    try dsimp only [List.set_cons_zero, List.set_cons_succ, Option.toList_some, Option.toList_none, List.cons_append, List.nil_append]
                    rw [nI_1]
                    exact ih2 _ m3 hlw ⟨rfl, nxt⟩
                  · rw [if_neg hc] at nxt
                    repeat refine AW.u 14 rfl rfl ?_
                    try dsimp only [List.set_cons_zero, List.set_cons_succ, Option.toList_some, Option.toList_none, List.cons_append, List.nil_append]
                    refine AW.fg 4 ?_
                    refine AW.fg 5 ?_
                    try dsimp only [List.set_cons_zero, List.set_cons_succ, Option.toList_some, Option.toList_none, List.cons_append, List.nil_append]
                    rw [nI_1]
                    exact ih2 _ m3 hlw ⟨rfl, nxt⟩
          · have hlen : ¬ ys.length = xs.length := fun q => hc (by rw [q])
            exact skip (fun ⟨xs', ys', b1, b2, b3⟩ => by rw [hfw2] at b1; rw [hfv] at b2; cases b1; cases b2; exact hlen b3.symm) _ _
    · have : w = v := by
        have : ¬ w < v := fun q => hc ((nI_ltI (by omega) (by omega)).mpr q)
        omega
      subst this
      repeat refine AW.u 4 rfl rfl ?_
      try dsimp only [List.set_cons_zero, List.set_cons_succ, Option.toList_some, Option.toList_none, List.cons_append, List.nil_append]
      refine AW.fg 3 ?_
      try dsimp only [List.set_cons_zero, List.set_cons_succ, Option.toList_some, Option.toList_none, List.cons_append, List.nil_append]
      rw [nI_1]
      refine ih _ m2 hlv ⟨rfl, hx2.to (fun d => ⟨?_, ?_⟩)⟩
      · rintro ⟨p, q, a1, a2, a3, a4⟩; exact ⟨p, q, a1, a2, by omega, a4⟩
      · rintro ⟨p, q, a1, a2, a3, a4⟩; exact ⟨p, q, a1, a2, by omega, a4⟩
  · have : v = n := by
      have : ¬ v < n := fun q => hc ((nI_ltI (by omega) (by omega)).mpr q)
      omega
    subst this
    repeat refine AW.s rfl ?_
    try dsimp only [List.set_cons_zero, List.set_cons_succ, Option.toList_some, Option.toList_none, List.cons_append, List.nil_append]
    refine AW.ri rfl rfl rfl ⟨_, rfl, hx.to (fun d => ⟨?_, ?_⟩), rfl⟩
    · rintro ⟨p, q, a1, a2, a3, a4⟩; exact ⟨p, q, a1, a2, a4⟩
    · rintro ⟨p, q, a1, a2, a4⟩; exact ⟨p, q, a1, a2, by omega, a4⟩
theorem M_all {b : Int32} (hd : 7 ≤ d) (hW : WO Ω) (hI : InvM m Ω) : Meth l X d M_X11_all [vR 12 243, vI b] m (fun r m' => ∃ x, r = some (vI x) ∧ allR Ω b x ∧ FrM m m') := by
  obtain ⟨d, rfl⟩ : ∃ e, d = e + 1 := ⟨d - 1, by omega⟩
  have h1 := hW.1.2.1
  have hfw : ∀ w, w < (oG Ω) 0 1 → WFo (saidS (oG Ω) (rowL (oG Ω)) w) := fun w hw => saidS_wf hW.1 (rowL_wf hW.1) hw
  refine E_X11_all (ls := [vR 12 243, vI b, vU, vU]) rfl rfl ?_
  repeat refine AW.s rfl ?_
  try dsimp only [List.set_cons_zero, List.set_cons_succ, Option.toList_some, Option.toList_none, List.cons_append, List.nil_append]
  refine AW.S k_11_7 (c_in0) rfl rfl rfl rfl (fun r1 m9 hq => ?_)
  obtain ⟨rfl, hm9⟩ := hq
  rw [hm9]
  try dsimp only [List.set_cons_zero, List.set_cons_succ, Option.toList_some, Option.toList_none, List.cons_append, List.nil_append]
  by_cases q1 : wB b 4 = 1
  · rw [q1]
    obtain ⟨p, hp, rfl⟩ := (wB_1 (n := 4) (by decide)).mp q1
    refine AW.b rfl (fun hc => ?_) (fun hc => ?_)
    · exact absurd hc (by decide)
    · repeat refine AW.s rfl ?_
      try dsimp only [List.set_cons_zero, List.set_cons_succ, Option.toList_some, Option.toList_none, List.cons_append, List.nil_append]
      refine AW.V k_11_252 ((c_MsayAll (by omega) hI.1 hW.1)) rfl rfl rfl rfl rfl rfl (fun r1 m1 hq => ?_)
      obtain ⟨rfl, hY, f1⟩ := hq
      have hI1 := hI.fr f1.M
      have hN1 : m1 243 1 = nI ((oG Ω) 0 1) := hI1.1.2.1
      repeat refine AW.s rfl ?_
      try dsimp only [List.set_cons_zero, List.set_cons_succ, Option.toList_some, Option.toList_none, List.cons_append, List.nil_append]
      rcases (show p = 0 ∨ p = 1 ∨ p = 2 ∨ p = 3 ∨ p = 4 by omega) with e | e | e | e | e <;> subst e
      · refine AW.tin (tgt := 48) rfl (by decide) (by decide) rfl (by decide) ?_
        repeat refine AW.s rfl ?_
        try dsimp only [List.set_cons_zero, List.set_cons_succ, Option.toList_some, Option.toList_none, List.cons_append, List.nil_append]
        refine AW.V k_11_272 ((M_worthNow (by omega) hW hI1)) rfl rfl rfl rfl rfl rfl (fun r1 m2 hq => ?_)
        obtain ⟨rfl, f2⟩ := hq
        exact AW.ri rfl rfl rfl ⟨_, rfl, Or.inl ⟨rfl, rfl⟩, f1.M.tr f2.M⟩
      · refine AW.tin (tgt := 53) rfl (by decide) (by decide) rfl (by decide) ?_
        repeat refine AW.s rfl ?_
        try dsimp only [List.set_cons_zero, List.set_cons_succ, Option.toList_some, Option.toList_none, List.cons_append, List.nil_append]
        refine AW.V k_11_255 ((c_Malike (by omega) h1 hN1 hY hfw)) rfl rfl rfl rfl rfl rfl (fun r1 m2 hq => ?_)
        obtain ⟨x, rfl, hx, hm2⟩ := hq
        rw [hm2]
        exact AW.ri rfl rfl rfl ⟨_, rfl, Or.inr (Or.inl ⟨rfl, hx⟩), f1.M⟩
      · refine AW.tin (tgt := 58) rfl (by decide) (by decide) rfl (by decide) ?_
        repeat refine AW.s rfl ?_
        try dsimp only [List.set_cons_zero, List.set_cons_succ, Option.toList_some, Option.toList_none, List.cons_append, List.nil_append]
        refine AW.V k_11_275 ((c_Mapart h1 hN1 hY hfw)) rfl rfl rfl rfl rfl rfl (fun r1 m2 hq => ?_)
        obtain ⟨x, rfl, hx, hm2⟩ := hq
        rw [hm2]
        exact AW.ri rfl rfl rfl ⟨_, rfl, Or.inr (Or.inr (Or.inl ⟨rfl, hx⟩)), f1.M⟩
      · refine AW.tin (tgt := 63) rfl (by decide) (by decide) rfl (by decide) ?_
        repeat refine AW.s rfl ?_
        try dsimp only [List.set_cons_zero, List.set_cons_succ, Option.toList_some, Option.toList_none, List.cons_append, List.nil_append]
        refine AW.V k_11_278 ((c_Midle (by omega) hI1.1 hW.1)) rfl rfl rfl rfl rfl rfl (fun r1 m2 hq => ?_)
        obtain ⟨x, rfl, hx, f2⟩ := hq
        exact AW.ri rfl rfl rfl ⟨_, rfl, Or.inr (Or.inr (Or.inr (Or.inl ⟨rfl, hx⟩))), f1.M.tr f2.M⟩
      · refine AW.tout (tgt := 68) rfl (by decide) (by decide) ?_
        repeat refine AW.u 72 rfl rfl ?_
        try dsimp only [List.set_cons_zero, List.set_cons_succ, Option.toList_some, Option.toList_none, List.cons_append, List.nil_append]
        refine AW.loop (pc := 72) (σ := Int32) ((oG Ω) 0 1) (fun i x => [vR 12 243, vI (nI 4), vI x, vI (nI i)]) (fun i x m2 => m2 = m1 ∧ isBits x (fun w => w < i ∧ saidS (oG Ω) (rowL (oG Ω)) w = none)) (fun i x m2 hi hm2 ih => ?_) 0 0 m1 (Nat.zero_le _) ⟨rfl, isBits.zero.to (fun b => ⟨fun q => absurd q id, fun q => absurd q.1 (by omega)⟩)⟩
        obtain ⟨rfl, hb⟩ := hm2
        repeat refine AW.s rfl ?_
        try dsimp only [List.set_cons_zero, List.set_cons_succ, Option.toList_some, Option.toList_none, List.cons_append, List.nil_append]
        rw [hN1]
        refine AW.b rfl (fun hc => ?_) (fun hc => ?_)
        · have hlt : i < (oG Ω) 0 1 := (nI_ltI (by omega) (by omega)).mp hc
          have hy := hY i hlt
          have ho := hfw i hlt
          repeat refine AW.s rfl ?_
          try dsimp only [List.set_cons_zero, List.set_cons_succ, Option.toList_some, Option.toList_none, List.cons_append, List.nil_append]
          refine AW.c rfl (vp_in_nI (by omega) (by decide)) ?_
          try dsimp only [List.set_cons_zero, List.set_cons_succ, Option.toList_some, Option.toList_none, List.cons_append, List.nil_append]
          rw [nI_clamp (by omega)]
          cases hoo : saidS (oG Ω) (rowL (oG Ω)) i with
          | none =>
            rw [hoo] at hy
            rw [show m2 (243 + 18) i = -3 from hy]
            repeat refine AW.s rfl ?_
            try dsimp only [List.set_cons_zero, List.set_cons_succ, Option.toList_some, Option.toList_none, List.cons_append, List.nil_append]
            refine AW.b rfl (fun hc => ?_) (fun hc => ?_)
            · repeat refine AW.u 72 rfl rfl ?_
              try dsimp only [List.set_cons_zero, List.set_cons_succ, Option.toList_some, Option.toList_none, List.cons_append, List.nil_append]
              rw [nI_1]
              refine ih _ _ hlt ⟨rfl, (hb.or (k := i) (by omega)).to (fun r => ⟨fun q => ?_, fun q => ?_⟩)⟩
              · rcases q with q | rfl
                · exact ⟨by omega, q.2⟩
                · exact ⟨by omega, hoo⟩
              · by_cases e : r = i
                · exact Or.inr e
                · exact Or.inl ⟨by omega, q.2⟩
            · exact absurd rfl hc
          | some xs =>
            rw [hoo] at hy ho
            obtain ⟨g1, g2, g3⟩ := ho xs rfl
            rw [show m2 (243 + 18) i = nI xs.length from hy.1]
            repeat refine AW.s rfl ?_
            try dsimp only [List.set_cons_zero, List.set_cons_succ, Option.toList_some, Option.toList_none, List.cons_append, List.nil_append]
            refine AW.b rfl (fun hc => ?_) (fun hc => ?_)
            · exact absurd (by rw [← hc]; exact nI_pos (by omega) : ¬ (-3 : Int32) < 0) (by decide)
            · repeat refine AW.u 72 rfl rfl ?_
              try dsimp only [List.set_cons_zero, List.set_cons_succ, Option.toList_some, Option.toList_none, List.cons_append, List.nil_append]
              rw [nI_1, show x ||| 0 = x by simp]
              refine ih _ _ hlt ⟨rfl, hb.to (fun r => ⟨fun q => ⟨by omega, q.2⟩, fun q => ?_⟩)⟩
              by_cases e : r = i
              · subst e; rw [hoo] at q; exact absurd q.2 (by simp)
              · exact ⟨by omega, q.2⟩
        · have : i = (oG Ω) 0 1 := by
            have : ¬ i < (oG Ω) 0 1 := fun q => hc ((nI_ltI (by omega) (by omega)).mpr q)
            omega
          subst this
          repeat refine AW.s rfl ?_
          try dsimp only [List.set_cons_zero, List.set_cons_succ, Option.toList_some, Option.toList_none, List.cons_append, List.nil_append]
          exact AW.ri rfl rfl rfl ⟨_, rfl, Or.inr (Or.inr (Or.inr (Or.inr (Or.inl ⟨rfl, hb⟩)))), f1.M⟩
  · rw [wB_0 q1]
    refine AW.b rfl (fun hc => ?_) (fun hc => ?_)
    · repeat refine AW.s rfl ?_
      try dsimp only [List.set_cons_zero, List.set_cons_succ, Option.toList_some, Option.toList_none, List.cons_append, List.nil_append]
      refine AW.ri rfl rfl rfl ⟨_, rfl, Or.inr (Or.inr (Or.inr (Or.inr (Or.inr ⟨fun p hp e => q1 ?_, rfl⟩)))), FrM.rf⟩
      rw [e]
      exact (wB_1 (n := 4) (by decide)).mpr ⟨p, hp, rfl⟩
    · exact absurd rfl hc
end
