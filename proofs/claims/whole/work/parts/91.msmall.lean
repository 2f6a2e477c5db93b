-- ===== the model: rule, then, clear, told, set, feed, force, count, taken =====
theorem RepM.u2 {m : Mem} {i v : Nat} {σ : Sg} (hs : RepM m σ) : RepM (mUp m 246 i (nI v)) (sU σ 2 i v) := by
  obtain ⟨a1, a2, a3, a4, a5, a6, a7, a8⟩ := hs
  have e0 : ∀ k, sU σ 2 i v 0 k = σ 0 k := fun k => sU_o (by decide)
  refine ⟨by rw [mUp_a (by decide), e0]; exact a1, by rw [mUp_a (by decide), e0]; exact a2, by rw [mUp_a (by decide), e0]; exact a3, by rw [mUp_a (by decide), e0]; exact a4, by rw [mUp_a (by decide), e0]; exact a5, fun w hw => ?_, fun r hr => ?_, fun q hq => ?_⟩
  · rw [e0] at hw
    obtain ⟨x1, x2, x3⟩ := a6 w hw
    refine ⟨by rw [mUp_a (by decide), sU_o (by decide)]; exact x1, by
      by_cases q : w = i
      · rw [q, mUp_s, sU_t]
      · rw [mUp_n (Or.inr q), sU_n (Or.inr q)]; exact x2, fun k hk => ?_⟩
    rw [sU_o (by decide)] at hk
    rw [mUp_a (by decide), sU_o (by omega)]; exact x3 k hk
  · rw [e0] at hr
    obtain ⟨x1, x2, x3⟩ := a7 r hr
    exact ⟨by rw [mUp_a (by decide), sU_o (by decide)]; exact x1, by rw [mUp_a (by decide), sU_o (by decide)]; exact x2, by rw [mUp_a (by decide), sU_o (by decide)]; exact x3⟩
  · rw [e0] at hq
    have x1 := a8 q hq
    exact by rw [mUp_a (by decide), sU_o (by decide)]; exact x1

theorem RepM.u3 {m : Mem} {i v : Nat} {σ : Sg} (hs : RepM m σ) : RepM (mUp m 247 i (nI v)) (sU σ 3 i v) := by
  obtain ⟨a1, a2, a3, a4, a5, a6, a7, a8⟩ := hs
  have e0 : ∀ k, sU σ 3 i v 0 k = σ 0 k := fun k => sU_o (by decide)
  refine ⟨by rw [mUp_a (by decide), e0]; exact a1, by rw [mUp_a (by decide), e0]; exact a2, by rw [mUp_a (by decide), e0]; exact a3, by rw [mUp_a (by decide), e0]; exact a4, by rw [mUp_a (by decide), e0]; exact a5, fun w hw => ?_, fun r hr => ?_, fun q hq => ?_⟩
  · rw [e0] at hw
    obtain ⟨x1, x2, x3⟩ := a6 w hw
    refine ⟨by rw [mUp_a (by decide), sU_o (by decide)]; exact x1, by rw [mUp_a (by decide), sU_o (by decide)]; exact x2, fun k hk => ?_⟩
    rw [sU_o (by decide)] at hk
    rw [mUp_a (by decide), sU_o (by omega)]; exact x3 k hk
  · rw [e0] at hr
    obtain ⟨x1, x2, x3⟩ := a7 r hr
    exact ⟨by
      by_cases q : r = i
      · rw [q, mUp_s, sU_t]
      · rw [mUp_n (Or.inr q), sU_n (Or.inr q)]; exact x1, by rw [mUp_a (by decide), sU_o (by decide)]; exact x2, by rw [mUp_a (by decide), sU_o (by decide)]; exact x3⟩
  · rw [e0] at hq
    have x1 := a8 q hq
    exact by rw [mUp_a (by decide), sU_o (by decide)]; exact x1

theorem RepM.u4 {m : Mem} {i v : Nat} {σ : Sg} (hs : RepM m σ) : RepM (mUp m 248 i (nI v)) (sU σ 4 i v) := by
  obtain ⟨a1, a2, a3, a4, a5, a6, a7, a8⟩ := hs
  have e0 : ∀ k, sU σ 4 i v 0 k = σ 0 k := fun k => sU_o (by decide)
  refine ⟨by rw [mUp_a (by decide), e0]; exact a1, by rw [mUp_a (by decide), e0]; exact a2, by rw [mUp_a (by decide), e0]; exact a3, by rw [mUp_a (by decide), e0]; exact a4, by rw [mUp_a (by decide), e0]; exact a5, fun w hw => ?_, fun r hr => ?_, fun q hq => ?_⟩
  · rw [e0] at hw
    obtain ⟨x1, x2, x3⟩ := a6 w hw
    refine ⟨by rw [mUp_a (by decide), sU_o (by decide)]; exact x1, by rw [mUp_a (by decide), sU_o (by decide)]; exact x2, fun k hk => ?_⟩
    rw [sU_o (by decide)] at hk
    rw [mUp_a (by decide), sU_o (by omega)]; exact x3 k hk
  · rw [e0] at hr
    obtain ⟨x1, x2, x3⟩ := a7 r hr
    exact ⟨by rw [mUp_a (by decide), sU_o (by decide)]; exact x1, by
      by_cases q : r = i
      · rw [q, mUp_s, sU_t]
      · rw [mUp_n (Or.inr q), sU_n (Or.inr q)]; exact x2, by rw [mUp_a (by decide), sU_o (by decide)]; exact x3⟩
  · rw [e0] at hq
    have x1 := a8 q hq
    exact by rw [mUp_a (by decide), sU_o (by decide)]; exact x1

theorem RepM.u5 {m : Mem} {i v : Nat} {σ : Sg} (hs : RepM m σ) : RepM (mUp m 249 i (nI v)) (sU σ 5 i v) := by
  obtain ⟨a1, a2, a3, a4, a5, a6, a7, a8⟩ := hs
  have e0 : ∀ k, sU σ 5 i v 0 k = σ 0 k := fun k => sU_o (by decide)
  refine ⟨by rw [mUp_a (by decide), e0]; exact a1, by rw [mUp_a (by decide), e0]; exact a2, by rw [mUp_a (by decide), e0]; exact a3, by rw [mUp_a (by decide), e0]; exact a4, by rw [mUp_a (by decide), e0]; exact a5, fun w hw => ?_, fun r hr => ?_, fun q hq => ?_⟩
  · rw [e0] at hw
    obtain ⟨x1, x2, x3⟩ := a6 w hw
    refine ⟨by rw [mUp_a (by decide), sU_o (by decide)]; exact x1, by rw [mUp_a (by decide), sU_o (by decide)]; exact x2, fun k hk => ?_⟩
    rw [sU_o (by decide)] at hk
    rw [mUp_a (by decide), sU_o (by omega)]; exact x3 k hk
  · rw [e0] at hr
    obtain ⟨x1, x2, x3⟩ := a7 r hr
    exact ⟨by rw [mUp_a (by decide), sU_o (by decide)]; exact x1, by rw [mUp_a (by decide), sU_o (by decide)]; exact x2, by
      by_cases q : r = i
      · rw [q, mUp_s, sU_t]
      · rw [mUp_n (Or.inr q), sU_n (Or.inr q)]; exact x3⟩
  · rw [e0] at hq
    have x1 := a8 q hq
    exact by rw [mUp_a (by decide), sU_o (by decide)]; exact x1

theorem RepM.u6 {m : Mem} {i v : Nat} {σ : Sg} (hs : RepM m σ) : RepM (mUp m 250 i (nI v)) (sU σ 6 i v) := by
  obtain ⟨a1, a2, a3, a4, a5, a6, a7, a8⟩ := hs
  have e0 : ∀ k, sU σ 6 i v 0 k = σ 0 k := fun k => sU_o (by decide)
  refine ⟨by rw [mUp_a (by decide), e0]; exact a1, by rw [mUp_a (by decide), e0]; exact a2, by rw [mUp_a (by decide), e0]; exact a3, by rw [mUp_a (by decide), e0]; exact a4, by rw [mUp_a (by decide), e0]; exact a5, fun w hw => ?_, fun r hr => ?_, fun q hq => ?_⟩
  · rw [e0] at hw
    obtain ⟨x1, x2, x3⟩ := a6 w hw
    refine ⟨by rw [mUp_a (by decide), sU_o (by decide)]; exact x1, by rw [mUp_a (by decide), sU_o (by decide)]; exact x2, fun k hk => ?_⟩
    rw [sU_o (by decide)] at hk
    rw [mUp_a (by decide), sU_o (by omega)]; exact x3 k hk
  · rw [e0] at hr
    obtain ⟨x1, x2, x3⟩ := a7 r hr
    exact ⟨by rw [mUp_a (by decide), sU_o (by decide)]; exact x1, by rw [mUp_a (by decide), sU_o (by decide)]; exact x2, by rw [mUp_a (by decide), sU_o (by decide)]; exact x3⟩
  · rw [e0] at hq
    have x1 := a8 q hq
    exact by
      by_cases z : q = i
      · rw [z, mUp_s, sU_t]
      · rw [mUp_n (Or.inr z), sU_n (Or.inr z)]; exact x1

theorem RepM.v0 {m : Mem} {v : Nat} {σ : Sg} (hs : RepM m σ) : RepM (mUp m 243 0 (nI v)) (sU σ 0 0 v) := by
  obtain ⟨a1, a2, a3, a4, a5, a6, a7, a8⟩ := hs
  have e : ∀ a k, a ≠ 0 → sU σ 0 0 v a k = σ a k := fun a k h => sU_o h
  refine ⟨by rw [sU_t]; exact mUp_s _ _ _ _, by rw [mUp_n (Or.inr (by decide)), sU_n (Or.inr (by decide))]; exact a2, by rw [mUp_n (Or.inr (by decide)), sU_n (Or.inr (by decide))]; exact a3, by rw [mUp_n (Or.inr (by decide)), sU_n (Or.inr (by decide))]; exact a4, by rw [mUp_n (Or.inr (by decide)), sU_n (Or.inr (by decide))]; exact a5, fun w hw => ?_, fun r hr => ?_, fun q hq => ?_⟩
  · rw [sU_n (Or.inr (by decide))] at hw
    rw [mUp_a (by decide), mUp_a (by decide), mUp_a (by decide), e 1 w (by decide), e 2 w (by decide)]
    have x := a6 w hw
    exact ⟨x.1, x.2.1, fun k hk => by rw [e (10 + w) k (by omega)]; exact x.2.2 k hk⟩
  · rw [sU_n (Or.inr (by decide))] at hr
    rw [mUp_a (by decide), mUp_a (by decide), mUp_a (by decide), e 3 r (by decide), e 4 r (by decide), e 5 r (by decide)]
    exact a7 r hr
  · rw [sU_n (Or.inr (by decide))] at hq
    rw [mUp_a (by decide), e 6 q (by decide)]
    exact a8 q hq

theorem RepM.v2 {m : Mem} {v : Nat} {σ : Sg} (hs : RepM m σ) (h7 : ∀ r, σ 0 2 ≤ r → r < v → m 247 r = nI (σ 3 r) ∧ m 248 r = nI (σ 4 r) ∧ m 249 r = nI (σ 5 r)) : RepM (mUp m 243 5 (nI v)) (sU σ 0 2 v) := by
  obtain ⟨a1, a2, a3, a4, a5, a6, a7, a8⟩ := hs
  have e : ∀ a k, a ≠ 0 → sU σ 0 2 v a k = σ a k := fun a k h => sU_o h
  refine ⟨by rw [mUp_n (Or.inr (by decide)), sU_n (Or.inr (by decide))]; exact a1, by rw [mUp_n (Or.inr (by decide)), sU_n (Or.inr (by decide))]; exact a2, by rw [sU_t]; exact mUp_s _ _ _ _, by rw [mUp_n (Or.inr (by decide)), sU_n (Or.inr (by decide))]; exact a4, by rw [mUp_n (Or.inr (by decide)), sU_n (Or.inr (by decide))]; exact a5, fun w hw => ?_, fun r hr => ?_, fun q hq => ?_⟩
  · rw [sU_n (Or.inr (by decide))] at hw
    rw [mUp_a (by decide), mUp_a (by decide), mUp_a (by decide), e 1 w (by decide), e 2 w (by decide)]
    have x := a6 w hw
    exact ⟨x.1, x.2.1, fun k hk => by rw [e (10 + w) k (by omega)]; exact x.2.2 k hk⟩
  · rw [sU_t] at hr
    rw [mUp_a (by decide), mUp_a (by decide), mUp_a (by decide), e 3 r (by decide), e 4 r (by decide), e 5 r (by decide)]
    exact (Nat.lt_or_ge r (σ 0 2)).elim (a7 r) (fun z => h7 r z hr)
  · rw [sU_n (Or.inr (by decide))] at hq
    rw [mUp_a (by decide), e 6 q (by decide)]
    exact a8 q hq

theorem RepM.v3 {m : Mem} {v : Nat} {σ : Sg} (hs : RepM m σ) (h8 : ∀ i, σ 0 3 ≤ i → i < v → m 250 i = nI (σ 6 i)) : RepM (mUp m 243 9 (nI v)) (sU σ 0 3 v) := by
  obtain ⟨a1, a2, a3, a4, a5, a6, a7, a8⟩ := hs
  have e : ∀ a k, a ≠ 0 → sU σ 0 3 v a k = σ a k := fun a k h => sU_o h
  refine ⟨by rw [mUp_n (Or.inr (by decide)), sU_n (Or.inr (by decide))]; exact a1, by rw [mUp_n (Or.inr (by decide)), sU_n (Or.inr (by decide))]; exact a2, by rw [mUp_n (Or.inr (by decide)), sU_n (Or.inr (by decide))]; exact a3, by rw [sU_t]; exact mUp_s _ _ _ _, by rw [mUp_n (Or.inr (by decide)), sU_n (Or.inr (by decide))]; exact a5, fun w hw => ?_, fun r hr => ?_, fun q hq => ?_⟩
  · rw [sU_n (Or.inr (by decide))] at hw
    rw [mUp_a (by decide), mUp_a (by decide), mUp_a (by decide), e 1 w (by decide), e 2 w (by decide)]
    have x := a6 w hw
    exact ⟨x.1, x.2.1, fun k hk => by rw [e (10 + w) k (by omega)]; exact x.2.2 k hk⟩
  · rw [sU_n (Or.inr (by decide))] at hr
    rw [mUp_a (by decide), mUp_a (by decide), mUp_a (by decide), e 3 r (by decide), e 4 r (by decide), e 5 r (by decide)]
    exact a7 r hr
  · rw [sU_t] at hq
    rw [mUp_a (by decide), e 6 q (by decide)]
    exact (Nat.lt_or_ge q (σ 0 3)).elim (a8 q) (fun z => h8 q z hq)

theorem RepM.v4 {m : Mem} {v : Nat} {σ : Sg} (hs : RepM m σ) : RepM (mUp m 243 14 (nI v)) (sU σ 0 4 v) := by
  obtain ⟨a1, a2, a3, a4, a5, a6, a7, a8⟩ := hs
  have e : ∀ a k, a ≠ 0 → sU σ 0 4 v a k = σ a k := fun a k h => sU_o h
  refine ⟨by rw [mUp_n (Or.inr (by decide)), sU_n (Or.inr (by decide))]; exact a1, by rw [mUp_n (Or.inr (by decide)), sU_n (Or.inr (by decide))]; exact a2, by rw [mUp_n (Or.inr (by decide)), sU_n (Or.inr (by decide))]; exact a3, by rw [mUp_n (Or.inr (by decide)), sU_n (Or.inr (by decide))]; exact a4, by rw [sU_t]; exact mUp_s _ _ _ _, fun w hw => ?_, fun r hr => ?_, fun q hq => ?_⟩
  · rw [sU_n (Or.inr (by decide))] at hw
    rw [mUp_a (by decide), mUp_a (by decide), mUp_a (by decide), e 1 w (by decide), e 2 w (by decide)]
    have x := a6 w hw
    exact ⟨x.1, x.2.1, fun k hk => by rw [e (10 + w) k (by omega)]; exact x.2.2 k hk⟩
  · rw [sU_n (Or.inr (by decide))] at hr
    rw [mUp_a (by decide), mUp_a (by decide), mUp_a (by decide), e 3 r (by decide), e 4 r (by decide), e 5 r (by decide)]
    exact a7 r hr
  · rw [sU_n (Or.inr (by decide))] at hq
    rw [mUp_a (by decide), e 6 q (by decide)]
    exact a8 q hq

section
variable {l : Launch} {X : XT} {d : Nat} {m : Mem} {Ω : OM}
theorem M_rule {a b c : Int32} (hd : 5 ≤ d) (hW : WO Ω) (hI : InvM m Ω) : Meth l X d M_X11_rule [vR 12 243, vI a, vI b, vI c] m (fun r m' => r = some (vI (ruleF Ω a b c).1) ∧ InvM m' (ruleF Ω a b c).2 ∧ KM m m') := by
  obtain ⟨d, rfl⟩ : ∃ e, d = e + 1 := ⟨d - 1, by omega⟩
  have h6 := hW.1.2.2.1
  have hbad : ¬ rB a b c = 1 → AW (GM l X (d + 1) M_X11_rule (fun r m' => r = some (vI (ruleF Ω a b c).1) ∧ InvM m' (ruleF Ω a b c).2 ∧ KM m m')) 29 [vR 12 243, vI a, vI b, vI c] [] m := by
    intro hn
    have e0 : ruleF Ω a b c = (-2, Ω) := by unfold ruleF; rw [cif_f hn]
    rw [e0]
    repeat refine AW.s rfl ?_
    try dsimp only [List.set_cons_zero, List.set_cons_succ, Option.toList_some, Option.toList_none, List.cons_append, List.nil_append]
    exact AW.ri rfl rfl rfl ⟨rfl, hI, KM.rf⟩
  refine E_X11_rule (ls := [vR 12 243, vI a, vI b, vI c]) rfl rfl ?_
  repeat refine AW.s rfl ?_
  try dsimp only [List.set_cons_zero, List.set_cons_succ, Option.toList_some, Option.toList_none, List.cons_append, List.nil_append]
  refine AW.S k_11_7 (c_in0) rfl rfl rfl rfl (fun r1 m9 hq => ?_)
  obtain ⟨rfl, hm9⟩ := hq
  rw [hm9]
  try dsimp only [List.set_cons_zero, List.set_cons_succ, Option.toList_some, Option.toList_none, List.cons_append, List.nil_append]
  by_cases q1 : wB a 5 = 1
  · rw [q1]
    refine AW.b rfl (fun hc => ?_) (fun hc => ?_)
    · exact absurd hc (by decide)
    · repeat refine AW.s rfl ?_
      try dsimp only [List.set_cons_zero, List.set_cons_succ, Option.toList_some, Option.toList_none, List.cons_append, List.nil_append]
      refine AW.S k_11_7 (c_in0) rfl rfl rfl rfl (fun r1 m8 hq => ?_)
      obtain ⟨rfl, hm8⟩ := hq
      rw [hm8]
      try dsimp only [List.set_cons_zero, List.set_cons_succ, Option.toList_some, Option.toList_none, List.cons_append, List.nil_append]
      by_cases q2 : wB b 25 = 1
      · rw [q2]
        refine AW.b rfl (fun hc => ?_) (fun hc => ?_)
        · exact absurd hc (by decide)
        · repeat refine AW.s rfl ?_
          try dsimp only [List.set_cons_zero, List.set_cons_succ, Option.toList_some, Option.toList_none, List.cons_append, List.nil_append]
          refine AW.S k_11_7 (c_in0) rfl rfl rfl rfl (fun r1 m7 hq => ?_)
          obtain ⟨rfl, hm7⟩ := hq
          rw [hm7]
          try dsimp only [List.set_cons_zero, List.set_cons_succ, Option.toList_some, Option.toList_none, List.cons_append, List.nil_append]
          by_cases q3 : wB c 25 = 1
          · rw [q3]
            have q0 : rB a b c = 1 := rB_1.mpr ⟨q1, q2, q3⟩
            obtain ⟨i, hi, rfl⟩ := (wB_1 (n := 5) (by decide)).mp q1
            obtain ⟨j, hj, rfl⟩ := (wB_1 (n := 25) (by decide)).mp q2
            obtain ⟨k, hk, rfl⟩ := (wB_1 (n := 25) (by decide)).mp q3
            have e0 : ruleF Ω (nI i) (nI j) (nI k) = cif ((oG Ω) 0 2 = 6) (-4, Ω) (nI ((oG Ω) 0 2), uG Ω (addR (oG Ω) i j k)) := by unfold ruleF; rw [cif_t q0, nI_clamp (by omega), nI_clamp (by omega), nI_clamp (by omega)]
            have hR : m 243 5 = nI ((oG Ω) 0 2) := hI.1.2.2.1
            refine AW.b rfl (fun hc => ?_) (fun hc => ?_)
            · exact absurd hc (by decide)
            · repeat refine AW.s rfl ?_
              try dsimp only [List.set_cons_zero, List.set_cons_succ, Option.toList_some, Option.toList_none, List.cons_append, List.nil_append]
              rw [hR]
              refine AW.b rfl (fun hc => ?_) (fun hc => ?_)
              · have e6 : (oG Ω) 0 2 = 6 := (nI_eq (b := 6) (by omega) (by decide)).mp hc
                rw [cif_t e6] at e0
                rw [e0]
                repeat refine AW.s rfl ?_
                try dsimp only [List.set_cons_zero, List.set_cons_succ, Option.toList_some, Option.toList_none, List.cons_append, List.nil_append]
                exact AW.ri rfl rfl rfl ⟨rfl, hI, KM.rf⟩
              · have e6 : ¬ (oG Ω) 0 2 = 6 := fun q => hc (by rw [q]; rfl)
                rw [cif_f e6] at e0
                rw [e0]
                generalize hRn : (oG Ω) 0 2 = R at *
                repeat refine AW.s rfl ?_
                try dsimp only [List.set_cons_zero, List.set_cons_succ, Option.toList_some, Option.toList_none, List.cons_append, List.nil_append]
                rw [hR]
                refine AW.c rfl (⟨vp_in_nI (by omega) (by decide), fun z => absurd z (by decide)⟩) ?_
                try dsimp only [List.set_cons_zero, List.set_cons_succ, Option.toList_some, Option.toList_none, List.cons_append, List.nil_append]
                rw [nI_clamp (by omega)]
                repeat refine AW.s rfl ?_
                try dsimp only [List.set_cons_zero, List.set_cons_succ, Option.toList_some, Option.toList_none, List.cons_append, List.nil_append]
                rw [show mUp m (243 + 4) R (nI i) 243 5 = nI R by rw [mUp_a (by decide)]; exact hR]
                refine AW.c rfl (⟨vp_in_nI (by omega) (by decide), fun z => absurd z (by decide)⟩) ?_
                try dsimp only [List.set_cons_zero, List.set_cons_succ, Option.toList_some, Option.toList_none, List.cons_append, List.nil_append]
                rw [nI_clamp (by omega)]
                repeat refine AW.s rfl ?_
                try dsimp only [List.set_cons_zero, List.set_cons_succ, Option.toList_some, Option.toList_none, List.cons_append, List.nil_append]
                rw [show mUp (mUp m (243 + 4) R (nI i)) (243 + 5) R (nI j) 243 5 = nI R by rw [mUp_a (by decide), mUp_a (by decide)]; exact hR]
                refine AW.c rfl (⟨vp_in_nI (by omega) (by decide), fun z => absurd z (by decide)⟩) ?_
                try dsimp only [List.set_cons_zero, List.set_cons_succ, Option.toList_some, Option.toList_none, List.cons_append, List.nil_append]
                rw [nI_clamp (by omega)]
                repeat refine AW.s rfl ?_
                try dsimp only [List.set_cons_zero, List.set_cons_succ, Option.toList_some, Option.toList_none, List.cons_append, List.nil_append]
                rw [show mUp (mUp (mUp m (243 + 4) R (nI i)) (243 + 5) R (nI j)) (243 + 6) R (nI k) 243 5 = nI R by rw [mUp_a (by decide), mUp_a (by decide), mUp_a (by decide)]; exact hR, nI_1, mUp_s, show nI (R + 1) - 1 = nI R from pk_sub (b := 1) (by omega)]
                have fr : ∀ q, q ≠ 243 → q ≠ 247 → q ≠ 248 → q ≠ 249 → mUp (mUp (mUp (mUp m (243 + 4) R (nI i)) (243 + 5) R (nI j)) (243 + 6) R (nI k)) 243 5 (nI (R + 1)) q = m q := fun q x1 x2 x3 x4 => by rw [mUp_a x1, mUp_a x4, mUp_a x3, mUp_a x2]
                refine AW.ri rfl rfl rfl ⟨rfl, hI.g ?_ (fun q h1 h2 => fr q (by omega) (by omega) (by omega) (by omega)) (fun q hq => by rw [mUp_n (Or.inr (by omega)), mUp_a (by decide), mUp_a (by decide), mUp_a (by decide)]), fun q hq => fr q (by omega) (by omega) (by omega) (by omega)⟩
                have hz := ((hI.1.u3 (i := R) (v := i)).u4 (i := R) (v := j)).u5 (i := R) (v := k)
                have hz2 := hz.v2 (v := R + 1) (fun r hr1 hr2 => ?_)
                · have ea : addR (oG Ω) i j k = sU (sU (sU (sU (oG Ω) 3 R i) 4 R j) 5 R k) 0 2 (R + 1) := by unfold addR; rw [hRn]
                  rw [ea]
                  exact hz2
                · rw [sU_o (by decide), sU_o (by decide), sU_o (by decide), hRn] at hr1
                  have er : r = R := by omega
                  subst er
                  refine ⟨?_, ?_, ?_⟩
                  · rw [mUp_a (by decide), mUp_a (by decide), mUp_s, sU_o (by decide), sU_o (by decide), sU_t]
                  · rw [mUp_a (by decide), mUp_s, sU_o (by decide), sU_t]
                  · rw [mUp_s, sU_t]
          · rw [wB_0 q3]
            refine AW.b rfl (fun hc => ?_) (fun hc => ?_)
            · exact hbad (fun q => q3 (rB_1.mp q).2.2)
            · exact absurd rfl hc
      · rw [wB_0 q2]
        refine AW.b rfl (fun hc => ?_) (fun hc => ?_)
        · exact hbad (fun q => q2 (rB_1.mp q).2.1)
        · exact absurd rfl hc
  · rw [wB_0 q1]
    refine AW.b rfl (fun hc => ?_) (fun hc => ?_)
    · exact hbad (fun q => q1 (rB_1.mp q).1)
    · exact absurd rfl hc
theorem M_then {a : Int32} (hd : 5 ≤ d) (hW : WO Ω) (hI : InvM m Ω) : Meth l X d M_X11_then [vR 12 243, vI a] m (fun r m' => r = some (vI (thenF Ω a).1) ∧ InvM m' (thenF Ω a).2 ∧ KM m m') := by
  obtain ⟨d, rfl⟩ : ∃ e, d = e + 1 := ⟨d - 1, by omega⟩
  have h6 := hW.1.2.2.1
  have h3 := hW.1.2.2.2.1
  refine E_X11_then (ls := [vR 12 243, vI a]) rfl rfl ?_
  repeat refine AW.s rfl ?_
  try dsimp only [List.set_cons_zero, List.set_cons_succ, Option.toList_some, Option.toList_none, List.cons_append, List.nil_append]
  refine AW.V k_11_46 ((c_Mrule (by omega) hI.1 hW.1)) rfl rfl rfl rfl rfl rfl (fun r1 m9 hq => ?_)
  obtain ⟨rfl, hm9⟩ := hq
  rw [hm9]
  try dsimp only [List.set_cons_zero, List.set_cons_succ, Option.toList_some, Option.toList_none, List.cons_append, List.nil_append]
  by_cases q1 : hB a ((oG Ω) 0 2) = 1
  · rw [q1]
    obtain ⟨r, hr, rfl⟩ := (hB_1 (by omega)).mp q1
    have e0 : thenF Ω (nI r) = cif ((oG Ω) 0 3 = 8) (-4, Ω) (nI ((oG Ω) 0 3 + 1), uG Ω (thenS (oG Ω) r)) := by unfold thenF; rw [cif_t q1, nI_clamp (by omega)]
    have hR : m 243 9 = nI ((oG Ω) 0 3) := hI.1.2.2.2.1
    refine AW.b rfl (fun hc => ?_) (fun hc => ?_)
    · exact absurd hc (by decide)
    · repeat refine AW.s rfl ?_
      try dsimp only [List.set_cons_zero, List.set_cons_succ, Option.toList_some, Option.toList_none, List.cons_append, List.nil_append]
      rw [hR]
      refine AW.b rfl (fun hc => ?_) (fun hc => ?_)
      · have e8 : (oG Ω) 0 3 = 8 := (nI_eq (b := 8) (by omega) (by decide)).mp hc
        rw [cif_t e8] at e0
        rw [e0]
        repeat refine AW.s rfl ?_
        try dsimp only [List.set_cons_zero, List.set_cons_succ, Option.toList_some, Option.toList_none, List.cons_append, List.nil_append]
        exact AW.ri rfl rfl rfl ⟨rfl, hI, KM.rf⟩
      · have e8 : ¬ (oG Ω) 0 3 = 8 := fun q => hc (by rw [q]; rfl)
        rw [cif_f e8] at e0
        rw [e0]
        repeat refine AW.s rfl ?_
        try dsimp only [List.set_cons_zero, List.set_cons_succ, Option.toList_some, Option.toList_none, List.cons_append, List.nil_append]
        rw [hR]
        refine AW.c rfl (⟨vp_in_nI (by omega) (by decide), fun z => absurd z (by decide)⟩) ?_
        try dsimp only [List.set_cons_zero, List.set_cons_succ, Option.toList_some, Option.toList_none, List.cons_append, List.nil_append]
        rw [nI_clamp (by omega)]
        repeat refine AW.s rfl ?_
        try dsimp only [List.set_cons_zero, List.set_cons_succ, Option.toList_some, Option.toList_none, List.cons_append, List.nil_append]
        rw [show mUp m (243 + 7) ((oG Ω) 0 3) (nI r) 243 9 = nI ((oG Ω) 0 3) by rw [mUp_a (by decide)]; exact hR, nI_1, mUp_s]
        have fr : ∀ q, q ≠ 243 → q ≠ 250 → mUp (mUp m (243 + 7) ((oG Ω) 0 3) (nI r)) 243 9 (nI ((oG Ω) 0 3 + 1)) q = m q := fun q x1 x2 => by rw [mUp_a x1, mUp_a x2]
        refine AW.ri rfl rfl rfl ⟨rfl, hI.g ?_ (fun q h1 h2 => fr q (by omega) (by omega)) (fun q hq => by rw [mUp_n (Or.inr (by omega)), mUp_a (by decide)]), fun q hq => fr q (by omega) (by omega)⟩
        refine (hI.1.u6 (i := (oG Ω) 0 3) (v := r)).v3 (fun i hi1 hi2 => ?_)
        rw [sU_o (by decide)] at hi1
        have ei : i = (oG Ω) 0 3 := by omega
        rw [ei, mUp_s, sU_t]
  · have e0 : thenF Ω a = (-2, Ω) := by unfold thenF; rw [cif_f q1]
    rw [hB_0 q1, e0]
    refine AW.b rfl (fun hc => ?_) (fun hc => ?_)
    · repeat refine AW.s rfl ?_
      try dsimp only [List.set_cons_zero, List.set_cons_succ, Option.toList_some, Option.toList_none, List.cons_append, List.nil_append]
      exact AW.ri rfl rfl rfl ⟨rfl, hI, KM.rf⟩
    · exact absurd rfl hc
theorem M_clear (hI : InvM m Ω) : Meth l X d M_X11_clear [vR 12 243] m (fun r m' => r = some (vI (clearF Ω).1) ∧ InvM m' (clearF Ω).2 ∧ KM m m') := by
  refine E_X11_clear (ls := [vR 12 243, vU]) rfl rfl ?_
  repeat refine AW.s rfl ?_
  try dsimp only [List.set_cons_zero, List.set_cons_succ, Option.toList_some, Option.toList_none, List.cons_append, List.nil_append]
  rw [show m 243 9 = nI ((oG Ω) 0 3) from hI.1.2.2.2.1]
  exact AW.ri rfl rfl rfl ⟨rfl, hI.g (hI.1.v3 (v := 0) (fun i _ h => absurd h (Nat.not_lt_zero i))) (fun q h1 h2 => mUp_a (by omega)) (fun q hq => mUp_n (Or.inr (by omega))), fun q hq => mUp_a (by omega)⟩
theorem M_feed {a : Int32} (hd : 5 ≤ d) (hW : WO Ω) (hI : InvM m Ω) : Meth l X d M_X11_feed [vR 12 243, vI a] m (fun r m' => r = some (vI (feedF Ω a).1) ∧ InvM m' (feedF Ω a).2 ∧ KM m m') := by
  obtain ⟨d, rfl⟩ : ∃ e, d = e + 1 := ⟨d - 1, by omega⟩
  have hN := hW.2.2.2.2.1
  refine E_X11_feed (ls := [vR 12 243, vI a]) rfl rfl ?_
  repeat refine AW.s rfl ?_
  try dsimp only [List.set_cons_zero, List.set_cons_succ, Option.toList_some, Option.toList_none, List.cons_append, List.nil_append]
  refine AW.S k_11_7 (c_in0) rfl rfl rfl rfl (fun r1 m9 hq => ?_)
  obtain ⟨rfl, hm9⟩ := hq
  rw [hm9]
  try dsimp only [List.set_cons_zero, List.set_cons_succ, Option.toList_some, Option.toList_none, List.cons_append, List.nil_append]
  by_cases q1 : wB a 255 = 1
  · rw [q1]
    have e0 : feedF Ω a = if oN Ω = 160 then (-4, Ω) else (nI (oN Ω + 1), uT Ω (oN Ω + 1) (upd (oB Ω) (oN Ω) a)) := if_pos q1
    have hsz : m 243 12 = nI (oN Ω) := hI.2.2.2.2.2.1
    refine AW.b rfl (fun hc => ?_) (fun hc => ?_)
    · exact absurd hc (by decide)
    · repeat refine AW.s rfl ?_
      try dsimp only [List.set_cons_zero, List.set_cons_succ, Option.toList_some, Option.toList_none, List.cons_append, List.nil_append]
      rw [hsz]
      refine AW.b rfl (fun hc => ?_) (fun hc => ?_)
      · have e8 : oN Ω = 160 := (nI_eq (b := 160) (by omega) (by decide)).mp hc
        rw [if_pos e8] at e0
        rw [e0]
        repeat refine AW.s rfl ?_
        try dsimp only [List.set_cons_zero, List.set_cons_succ, Option.toList_some, Option.toList_none, List.cons_append, List.nil_append]
        exact AW.ri rfl rfl rfl ⟨rfl, hI, KM.rf⟩
      · have e8 : ¬ oN Ω = 160 := fun q => hc (by rw [q]; rfl)
        rw [if_neg e8] at e0
        rw [e0]
        repeat refine AW.s rfl ?_
        try dsimp only [List.set_cons_zero, List.set_cons_succ, Option.toList_some, Option.toList_none, List.cons_append, List.nil_append]
        rw [hsz]
        refine AW.c rfl (⟨vp_in_nI (by omega) (by decide), fun z => absurd z (by decide)⟩) ?_
        try dsimp only [List.set_cons_zero, List.set_cons_succ, Option.toList_some, Option.toList_none, List.cons_append, List.nil_append]
        rw [nI_clamp (by omega)]
        repeat refine AW.s rfl ?_
        try dsimp only [List.set_cons_zero, List.set_cons_succ, Option.toList_some, Option.toList_none, List.cons_append, List.nil_append]
        rw [show mUp m (243 + 8) (oN Ω) a 243 12 = nI (oN Ω) by rw [mUp_a (by decide)]; exact hsz, nI_1, mUp_s]
        have fr : ∀ q, q ≠ 243 → q ≠ 251 → mUp (mUp m (243 + 8) (oN Ω) a) 243 12 (nI (oN Ω + 1)) q = m q := fun q x1 x2 => by rw [mUp_a x1, mUp_a x2]
        have fr0 : ∀ k, k ≠ 12 → mUp (mUp m (243 + 8) (oN Ω) a) 243 12 (nI (oN Ω + 1)) 243 k = m 243 k := fun k hk => by rw [mUp_n (Or.inr hk), mUp_a (by decide)]
        refine AW.ri rfl rfl rfl ⟨rfl, ?_, fun q hq => fr q (by omega) (by omega)⟩
        obtain ⟨h1, h2, h3, h4, h5, h6, h7, h8, h9, h10⟩ := hI
        refine ⟨h1.fr (fr0 0 (by decide)) (fr0 1 (by decide)) (fr0 5 (by decide)) (fr0 9 (by decide)) (fr0 14 (by decide)) (fun q x1 x2 => fr q (by omega) (by omega)), by rw [fr0 39 (by decide)]; exact h2, fun k => (h3 k).fr (fr 265 (by decide) (by decide)), by rw [fr0 13 (by decide)]; exact h4, fun t ht p hp => ?_, mUp_s _ _ _ _, fun k hk => ?_, by rw [fr 266 (by decide) (by decide), fr 267 (by decide) (by decide), fr 268 (by decide) (by decide)]; exact h8, by rw [fr 254 (by decide) (by decide)]; exact h9, by rw [fr 255 (by decide) (by decide)]; exact h10⟩
        · obtain ⟨cs, c1, c2⟩ := h5 t ht p hp
          exact ⟨cs, c1.fr (fr 252 (by decide) (by decide)) (fr 253 (by decide) (by decide)), c2⟩
        · have hk : k < oN Ω + 1 := hk
          rw [mUp_a (by decide)]
          show _ = upd (oB Ω) (oN Ω) a k
          by_cases e : k = oN Ω
          · subst e
            rw [mUp_s]
            simp [upd]
          · rw [mUp_n (Or.inr e), h7 k (by omega)]
            simp [upd, e]
  · have e0 : feedF Ω a = (-2, Ω) := if_neg q1
    rw [wB_0 q1, e0]
    refine AW.b rfl (fun hc => ?_) (fun hc => ?_)
    · repeat refine AW.s rfl ?_
      try dsimp only [List.set_cons_zero, List.set_cons_succ, Option.toList_some, Option.toList_none, List.cons_append, List.nil_append]
      exact AW.ri rfl rfl rfl ⟨rfl, hI, KM.rf⟩
    · exact absurd rfl hc
theorem M_force {a : Int32} (hd : 5 ≤ d) (hW : WO Ω) (hI : InvM m Ω) : Meth l X d M_X11_force [vR 12 243, vI a] m (fun r m' => r = some (vI (forceF Ω a).1) ∧ InvM m' (forceF Ω a).2 ∧ KM m m') := by
  obtain ⟨d, rfl⟩ : ∃ e, d = e + 1 := ⟨d - 1, by omega⟩
  have h6 := hW.2.2.2.1
  refine E_X11_force (ls := [vR 12 243, vI a, vU]) rfl rfl ?_
  repeat refine AW.s rfl ?_
  try dsimp only [List.set_cons_zero, List.set_cons_succ, Option.toList_some, Option.toList_none, List.cons_append, List.nil_append]
  rw [show m 243 13 = nI (oQ Ω) from hI.2.2.2.1]
  refine AW.S k_11_7 (c_isIn) rfl rfl rfl rfl (fun r1 m9 hq => ?_)
  obtain ⟨rfl, hm9⟩ := hq
  rw [hm9, show (if a < 0 then (0 : Int32) else if nI (oQ Ω) - 1 < a then 0 else 1) = hB a (oQ Ω) from inB_hB (by omega)]
  try dsimp only [List.set_cons_zero, List.set_cons_succ, Option.toList_some, Option.toList_none, List.cons_append, List.nil_append]
  by_cases q1 : hB a (oQ Ω) = 1
  · obtain ⟨t, ht, rfl⟩ := (hB_1 (by omega)).mp q1
    have e0 : forceF Ω (nI t) = (nI ((oG Ω) 0 4), uG Ω (sU (oG Ω) 0 4 t)) := by unfold forceF; rw [if_pos q1, nI_clamp (by omega)]
    rw [q1, e0]
    refine AW.b rfl (fun hc => ?_) (fun hc => ?_)
    · exact absurd hc (by decide)
    · repeat refine AW.s rfl ?_
      try dsimp only [List.set_cons_zero, List.set_cons_succ, Option.toList_some, Option.toList_none, List.cons_append, List.nil_append]
      rw [show m 243 14 = nI ((oG Ω) 0 4) from hI.1.2.2.2.2.1]
      exact AW.ri rfl rfl rfl ⟨rfl, hI.g hI.1.v4 (fun q h1 h2 => mUp_a (by omega)) (fun q hq => mUp_n (Or.inr (by omega))), fun q hq => mUp_a (by omega)⟩
  · have e0 : forceF Ω a = (-2, Ω) := if_neg q1
    rw [hB_0 q1, e0]
    refine AW.b rfl (fun hc => ?_) (fun hc => ?_)
    · repeat refine AW.s rfl ?_
      try dsimp only [List.set_cons_zero, List.set_cons_succ, Option.toList_some, Option.toList_none, List.cons_append, List.nil_append]
      exact AW.ri rfl rfl rfl ⟨rfl, hI, KM.rf⟩
    · exact absurd rfl hc
theorem M_count {b : Int32} (hI : InvM m Ω) : Meth l X d M_X11_count [vR 12 243, vI b] m (fun r m' => r = some (vI (countF Ω b)) ∧ m' = m) := by
  refine E_X11_count (ls := [vR 12 243, vI b]) rfl rfl ?_
  repeat refine AW.s rfl ?_
  try dsimp only [List.set_cons_zero, List.set_cons_succ, Option.toList_some, Option.toList_none, List.cons_append, List.nil_append]
  by_cases b0 : b = nI 0
  · subst b0
    refine AW.tin (tgt := 40) rfl (by decide) (by decide) rfl (by decide) ?_
    repeat refine AW.s rfl ?_
    try dsimp only [List.set_cons_zero, List.set_cons_succ, Option.toList_some, Option.toList_none, List.cons_append, List.nil_append]
    rw [show m 243 1 = nI ((oG Ω) 0 1) from hI.1.2.1]
    exact AW.ri rfl rfl rfl ⟨rfl, rfl⟩
  · by_cases b1 : b = nI 1
    · subst b1
      refine AW.tin (tgt := 45) rfl (by decide) (by decide) rfl (by decide) ?_
      repeat refine AW.s rfl ?_
      try dsimp only [List.set_cons_zero, List.set_cons_succ, Option.toList_some, Option.toList_none, List.cons_append, List.nil_append]
      rw [show m 243 5 = nI ((oG Ω) 0 2) from hI.1.2.2.1]
      exact AW.ri rfl rfl rfl ⟨rfl, rfl⟩
    · by_cases b2 : b = nI 2
      · subst b2
        refine AW.tin (tgt := 50) rfl (by decide) (by decide) rfl (by decide) ?_
        repeat refine AW.s rfl ?_
        try dsimp only [List.set_cons_zero, List.set_cons_succ, Option.toList_some, Option.toList_none, List.cons_append, List.nil_append]
        rw [show m 243 9 = nI ((oG Ω) 0 3) from hI.1.2.2.2.1]
        exact AW.ri rfl rfl rfl ⟨rfl, rfl⟩
      · by_cases b3 : b = nI 3
        · subst b3
          refine AW.tin (tgt := 55) rfl (by decide) (by decide) rfl (by decide) ?_
          repeat refine AW.s rfl ?_
          try dsimp only [List.set_cons_zero, List.set_cons_succ, Option.toList_some, Option.toList_none, List.cons_append, List.nil_append]
          rw [show m 243 13 = nI (oQ Ω) from hI.2.2.2.1]
          exact AW.ri rfl rfl rfl ⟨rfl, rfl⟩
        · by_cases b4 : b = nI 4
          · subst b4
            refine AW.tin (tgt := 60) rfl (by decide) (by decide) rfl (by decide) ?_
            repeat refine AW.s rfl ?_
            try dsimp only [List.set_cons_zero, List.set_cons_succ, Option.toList_some, Option.toList_none, List.cons_append, List.nil_append]
            rw [show m 243 12 = nI (oN Ω) from hI.2.2.2.2.2.1]
            exact AW.ri rfl rfl rfl ⟨rfl, rfl⟩
          · by_cases b5 : b = nI 5
            · subst b5
              refine AW.tin (tgt := 65) rfl (by decide) (by decide) rfl (by decide) ?_
              repeat refine AW.s rfl ?_
              try dsimp only [List.set_cons_zero, List.set_cons_succ, Option.toList_some, Option.toList_none, List.cons_append, List.nil_append]
              rw [show m 243 14 = nI ((oG Ω) 0 4) from hI.1.2.2.2.2.1]
              exact AW.ri rfl rfl rfl ⟨rfl, rfl⟩
            · have hall : ∀ p, p ≤ 5 → ¬ b = nI p := by
                intro p hp
                rcases (show p = 0 ∨ p = 1 ∨ p = 2 ∨ p = 3 ∨ p = 4 ∨ p = 5 by omega) with e | e | e | e | e | e <;> subst e <;> assumption
              refine AW.tout (tgt := 70) rfl (tsw (n := 5) (by decide) hall) (by decide) ?_
              repeat refine AW.s rfl ?_
              try dsimp only [List.set_cons_zero, List.set_cons_succ, Option.toList_some, Option.toList_none, List.cons_append, List.nil_append]
              exact AW.ri rfl rfl rfl ⟨by unfold countF; rw [if_neg (show ¬ b = 0 from b0), if_neg (show ¬ b = 1 from b1), if_neg (show ¬ b = 2 from b2), if_neg (show ¬ b = 3 from b3), if_neg (show ¬ b = 4 from b4), if_neg (show ¬ b = 5 from b5)], rfl⟩
theorem M_taken {a k : Int32} (hd : 5 ≤ d) (hW : WO Ω) (hI : InvM m Ω) : Meth l X d M_X11_taken [vR 12 243, vI a, vI k] m (fun r m' => r = some (vI (takenF Ω a k)) ∧ m' = m) := by
  obtain ⟨d, rfl⟩ : ∃ e, d = e + 1 := ⟨d - 1, by omega⟩
  have h2 := hW.1.2.2.1
  refine E_X11_taken (ls := [vR 12 243, vI a, vI k, vU]) rfl rfl ?_
  repeat refine AW.s rfl ?_
  try dsimp only [List.set_cons_zero, List.set_cons_succ, Option.toList_some, Option.toList_none, List.cons_append, List.nil_append]
  refine AW.S k_11_7 (c_in0) rfl rfl rfl rfl (fun r1 m9 hq => ?_)
  obtain ⟨rfl, hm9⟩ := hq
  rw [hm9]
  try dsimp only [List.set_cons_zero, List.set_cons_succ, Option.toList_some, Option.toList_none, List.cons_append, List.nil_append]
  by_cases q1 : wB k 5 = 1
  · have e0 : takenF Ω a k = if hB a ((oG Ω) 0 2) = 1 then (if unB ((oG Ω) 3 a.toNatClampNeg) k.toNatClampNeg = true then nI ((oG Ω) 5 a.toNatClampNeg) else -13) else -11 := if_pos q1
    rw [q1]
    refine AW.b rfl (fun hc => ?_) (fun hc => ?_)
    · exact absurd hc (by decide)
    · repeat refine AW.s rfl ?_
      try dsimp only [List.set_cons_zero, List.set_cons_succ, Option.toList_some, Option.toList_none, List.cons_append, List.nil_append]
      refine AW.V k_11_46 ((c_Mrule (by omega) hI.1 hW.1)) rfl rfl rfl rfl rfl rfl (fun r1 m8 hq => ?_)
      obtain ⟨rfl, hm8⟩ := hq
      rw [hm8]
      try dsimp only [List.set_cons_zero, List.set_cons_succ, Option.toList_some, Option.toList_none, List.cons_append, List.nil_append]
      by_cases q2 : hB a ((oG Ω) 0 2) = 1
      · rw [if_pos q2] at e0
        rw [q2]
        obtain ⟨r, hr, rfl⟩ := (hB_1 (by omega)).mp q2
        obtain ⟨j, hj, rfl⟩ := (wB_1 (n := 5) (by decide)).mp q1
        rw [nI_clamp (by omega), nI_clamp (by omega)] at e0
        obtain ⟨z1, z2, z3⟩ := hW.1.2.2.2.2.2.2.1 r hr
        obtain ⟨y1, y2, y3⟩ := hI.1.2.2.2.2.2.2.1 r hr
        generalize hK : (oG Ω) 3 r = K at *
        have yes : unB K j = true → AW (GM l X (d + 1) M_X11_taken (fun r_1 m' => r_1 = some (vI (takenF Ω (nI r) (nI j))) ∧ m' = m)) 59 [vR 12 243, vI (nI r), vI (nI j), vI (nI K)] [] m := by
          intro h
          rw [if_pos h] at e0
          rw [e0]
          repeat refine AW.s rfl ?_
          try dsimp only [List.set_cons_zero, List.set_cons_succ, Option.toList_some, Option.toList_none, List.cons_append, List.nil_append]
          refine AW.c rfl (vp_in_nI (by omega) (by decide)) ?_
          try dsimp only [List.set_cons_zero, List.set_cons_succ, Option.toList_some, Option.toList_none, List.cons_append, List.nil_append]
          rw [nI_clamp (by omega), show m (243 + 6) r = nI ((oG Ω) 5 r) from y3]
          repeat refine AW.s rfl ?_
          try dsimp only [List.set_cons_zero, List.set_cons_succ, Option.toList_some, Option.toList_none, List.cons_append, List.nil_append]
          exact AW.ri rfl rfl rfl ⟨rfl, rfl⟩
        have no : ¬ unB K j = true → AW (GM l X (d + 1) M_X11_taken (fun r_1 m' => r_1 = some (vI (takenF Ω (nI r) (nI j))) ∧ m' = m)) 68 [vR 12 243, vI (nI r), vI (nI j), vI (nI K)] [] m := by
          intro h
          rw [if_neg h] at e0
          rw [e0]
          repeat refine AW.s rfl ?_
          try dsimp only [List.set_cons_zero, List.set_cons_succ, Option.toList_some, Option.toList_none, List.cons_append, List.nil_append]
          exact AW.ri rfl rfl rfl ⟨rfl, rfl⟩
        have eqv : unB K j = true ↔ j = 0 ∨ j = K ∨ (j = 1 ∧ K = 3) ∨ (j = 2 ∧ K = 4) := by
          unfold unB
          simp
        have last : ¬ j = 0 → ¬ j = K → ¬ (j = 1 ∧ K = 3) → AW (GM l X (d + 1) M_X11_taken (fun r_1 m' => r_1 = some (vI (takenF Ω (nI r) (nI j))) ∧ m' = m)) 49 [vR 12 243, vI (nI r), vI (nI j), vI (nI K)] [] m := by
          intro n0 nK n1
          repeat refine AW.s rfl ?_
          try dsimp only [List.set_cons_zero, List.set_cons_succ, Option.toList_some, Option.toList_none, List.cons_append, List.nil_append]
          refine AW.b rfl (fun hc => ?_) (fun hc => ?_)
          · have j2 : j = 2 := (nI_eq (b := 2) (by omega) (by decide)).mp hc
            repeat refine AW.s rfl ?_
            try dsimp only [List.set_cons_zero, List.set_cons_succ, Option.toList_some, Option.toList_none, List.cons_append, List.nil_append]
            refine AW.b rfl (fun hc => ?_) (fun hc => ?_)
            · have k4 : K = 4 := (nI_eq (b := 4) (by omega) (by decide)).mp hc
              exact yes (eqv.mpr (Or.inr (Or.inr (Or.inr ⟨j2, k4⟩))))
            · have k4 : ¬ K = 4 := fun q => hc (by rw [q]; rfl)
              exact no (fun q => by rcases eqv.mp q with q | q | q | q; exact n0 q; exact nK q; exact n1 q; exact k4 q.2)
          · have j2 : ¬ j = 2 := fun q => hc (by rw [q]; rfl)
            exact no (fun q => by rcases eqv.mp q with q | q | q | q; exact n0 q; exact nK q; exact n1 q; exact j2 q.1)
        refine AW.b rfl (fun hc => ?_) (fun hc => ?_)
        · exact absurd hc (by decide)
        · repeat refine AW.s rfl ?_
          try dsimp only [List.set_cons_zero, List.set_cons_succ, Option.toList_some, Option.toList_none, List.cons_append, List.nil_append]
          refine AW.c rfl (vp_in_nI (by omega) (by decide)) ?_
          try dsimp only [List.set_cons_zero, List.set_cons_succ, Option.toList_some, Option.toList_none, List.cons_append, List.nil_append]
          rw [nI_clamp (by omega), show m (243 + 4) r = nI K from y1]
          repeat refine AW.s rfl ?_
          try dsimp only [List.set_cons_zero, List.set_cons_succ, Option.toList_some, Option.toList_none, List.cons_append, List.nil_append]
          refine AW.b rfl (fun hc => ?_) (fun hc => ?_)
          · have j0 : j = 0 := (nI_eq (b := 0) (by omega) (by decide)).mp hc
            exact yes (eqv.mpr (Or.inl j0))
          · have j0 : ¬ j = 0 := fun q => hc (by rw [q]; rfl)
            repeat refine AW.s rfl ?_
            try dsimp only [List.set_cons_zero, List.set_cons_succ, Option.toList_some, Option.toList_none, List.cons_append, List.nil_append]
            refine AW.b rfl (fun hc => ?_) (fun hc => ?_)
            · have jK : j = K := (nI_eq (by omega) (by omega)).mp hc
              exact yes (eqv.mpr (Or.inr (Or.inl jK)))
            · have jK : ¬ j = K := fun q => hc (by rw [q])
              repeat refine AW.s rfl ?_
              try dsimp only [List.set_cons_zero, List.set_cons_succ, Option.toList_some, Option.toList_none, List.cons_append, List.nil_append]
              refine AW.b rfl (fun hc => ?_) (fun hc => ?_)
              · have j1 : j = 1 := (nI_eq (b := 1) (by omega) (by decide)).mp hc
                repeat refine AW.s rfl ?_
                try dsimp only [List.set_cons_zero, List.set_cons_succ, Option.toList_some, Option.toList_none, List.cons_append, List.nil_append]
                refine AW.b rfl (fun hc => ?_) (fun hc => ?_)
                · have k3 : K = 3 := (nI_eq (b := 3) (by omega) (by decide)).mp hc
                  exact yes (eqv.mpr (Or.inr (Or.inr (Or.inl ⟨j1, k3⟩))))
                · have k3 : ¬ K = 3 := fun q => hc (by rw [q]; rfl)
                  exact last j0 jK (fun q => k3 q.2)
              · have j1 : ¬ j = 1 := fun q => hc (by rw [q]; rfl)
                exact last j0 jK (fun q => j1 q.1)
      · rw [if_neg q2] at e0
        rw [hB_0 q2, e0]
        refine AW.b rfl (fun hc => ?_) (fun hc => ?_)
        · repeat refine AW.s rfl ?_
          try dsimp only [List.set_cons_zero, List.set_cons_succ, Option.toList_some, Option.toList_none, List.cons_append, List.nil_append]
          exact AW.ri rfl rfl rfl ⟨rfl, rfl⟩
        · exact absurd rfl hc
  · have e0 : takenF Ω a k = -2 := if_neg q1
    rw [wB_0 q1, e0]
    refine AW.b rfl (fun hc => ?_) (fun hc => ?_)
    · repeat refine AW.s rfl ?_
      try dsimp only [List.set_cons_zero, List.set_cons_succ, Option.toList_some, Option.toList_none, List.cons_append, List.nil_append]
      exact AW.ri rfl rfl rfl ⟨rfl, rfl⟩
    · exact absurd rfl hc
end
