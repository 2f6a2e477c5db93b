-- ===== law: the cases of a round =====
section
variable {l : Launch} {X : XT} {cs ss : Nat} {Z : List Frame → Array Value → State → State → Prop} {m : Mem} {i : Nat} {Ω : OM}
/-- law's walk over a part of its table -/
abbrev GLt (l : Launch) (X : XT) (cs ss : Nat) (Z : List Frame → Array Value → State → State → Prop) (P : List PE) : GG := (l, X, room_1, cs, ss, (⟨RL, "law", "([I)Z"⟩, cL_law, 4, (some .boolean), 12, P), Z)
theorem AW.tab {P P' : List PE} {pc : Nat} {ls st : List AV} (ok : okP 12 cL_law P' = true) (h : AW (GLt l X cs ss Z P') pc ls st m) : AW (GLt l X cs ss Z P) pc ls st m := by
  intro hl hol hos p e s mid args below meth co C
  obtain ⟨c1, c2, c3, c4, c5, c6, c7, c8, c9, c10, c11, c12, c13, -⟩ := C
  exact h hl hol hos p e s mid args below meth co ⟨c1, c2, c3, c4, c5, c6, c7, c8, c9, c10, c11, c12, c13, ok⟩
theorem AW.VT {P : List PE} {μ : MI} {Q : Option AV → Mem → Prop} {pc np tg idx n : Nat} {lit : Int32} {ls st As rest : List AV} {t h : Nat} (hk : CVok 12 idx μ n) (hM : Meth l X 100 μ (vR t h :: As) m Q) (hf : P.lookup pc = some (.invokevirtual idx, np, tg, lit)) (hs : splV n st = some (As, t, h, rest)) (ht : (Nat.ble 1 t && Nat.ble t 12) = true) (ht2 : Rn (t - 1) = μ.1.cls) (h41 : Nat.ble μ.2.2.1 41 = true) (hr8 : Nat.ble (rest.map catA).sum 8 = true)
    (kk : ∀ (r : Option AV) (m' : Mem), Q r m' → AW (GLt l X cs ss Z P) np ls (r.toList ++ rest) m') : AW (GLt l X cs ss Z P) pc ls st m := by
  rw [Bool.and_eq_true] at ht
  have h41 := Nat.le_of_ble_eq_true h41
  exact AW.callV (G := GLt l X cs ss Z P) (d' := 100) hf hs hk ⟨Nat.le_of_ble_eq_true ht.1, Nat.lt_succ_of_le (Nat.le_of_ble_eq_true ht.2), ht2⟩ ⟨by show 100 + 1 ≤ 2048; omega, by show 8 + (μ.2.2.1 + 11) + 60 * 100 ≤ 84000; omega⟩ (Nat.le_of_ble_eq_true hr8) hM kk
theorem law_1 (hin : ∀ j : Nat, j < 6 → vp_in (nI i + nI j) X.2.2.2.2.2.1) (hW : WO Ω) (hC : InvC m Ω) (hM : InvM m Ω) (kk : ∀ m' Ω', WO Ω' → InvC m' Ω' → InvM m' Ω' → AW (GLw l X cs ss Z) 1109 (LL i) [] m') : AW (GLw l X cs ss Z) 201 (LL i) [] m := by
  refine AW.tab (P := P_L_law) (P' := P_L1 ++ P_L2) (okP_app ok_L1 ok_L2) ?_
  replace kk : ∀ m' Ω', WO Ω' → InvC m' Ω' → InvM m' Ω' → AW (GLt l X cs ss Z (P_L1 ++ P_L2)) 1109 (LL i) [] m' := fun a b c d e => AW.tab (P' := P_L_law) ok_L_law (kk a b c d e)
  repeat refine AW.s rfl ?_
  try dsimp only [List.set_cons_zero, List.set_cons_succ, Option.toList_some, Option.toList_none, List.cons_append, List.nil_append]
  refine AW.xld rfl (hin 1 (by decide)) ?_
  repeat refine AW.s rfl ?_
  try dsimp only [List.set_cons_zero, List.set_cons_succ, Option.toList_some, Option.toList_none, List.cons_append, List.nil_append]
  refine AW.xld rfl (hin 2 (by decide)) ?_
  repeat refine AW.s rfl ?_
  try dsimp only [List.set_cons_zero, List.set_cons_succ, Option.toList_some, Option.toList_none, List.cons_append, List.nil_append]
  refine AW.xld rfl (hin 3 (by decide)) ?_
  repeat refine AW.s rfl ?_
  try dsimp only [List.set_cons_zero, List.set_cons_succ, Option.toList_some, Option.toList_none, List.cons_append, List.nil_append]
  refine AW.VT k_12_18 (C_rule (by decide) hW hC) rfl rfl rfl rfl rfl rfl (fun r1 m1 hq => ?_)
  obtain ⟨rfl, c1, c2⟩ := hq
  have hM1 := hM.KC c2.1
  repeat refine AW.s rfl ?_
  try dsimp only [List.set_cons_zero, List.set_cons_succ, Option.toList_some, Option.toList_none, List.cons_append, List.nil_append]
  refine AW.xld rfl (hin 1 (by decide)) ?_
  repeat refine AW.s rfl ?_
  try dsimp only [List.set_cons_zero, List.set_cons_succ, Option.toList_some, Option.toList_none, List.cons_append, List.nil_append]
  refine AW.xld rfl (hin 2 (by decide)) ?_
  repeat refine AW.s rfl ?_
  try dsimp only [List.set_cons_zero, List.set_cons_succ, Option.toList_some, Option.toList_none, List.cons_append, List.nil_append]
  refine AW.xld rfl (hin 3 (by decide)) ?_
  repeat refine AW.s rfl ?_
  try dsimp only [List.set_cons_zero, List.set_cons_succ, Option.toList_some, Option.toList_none, List.cons_append, List.nil_append]
  refine AW.VT k_12_22 (M_rule (by decide) hW hM1) rfl rfl rfl rfl rfl rfl (fun r2 m2 hq => ?_)
  obtain ⟨rfl, d1, d2⟩ := hq
  try dsimp only [List.set_cons_zero, List.set_cons_succ, Option.toList_some, Option.toList_none, List.cons_append, List.nil_append]
  refine AW.b rfl (fun hc => ?_) (fun hc => ?_)
  · exact kk m2 _ (hW.rule _ _ _) (c1.KM (hW.rule _ _ _) d2) d1
  · exact absurd rfl hc
theorem law_2 (hin : ∀ j : Nat, j < 6 → vp_in (nI i + nI j) X.2.2.2.2.2.1) (hW : WO Ω) (hC : InvC m Ω) (hM : InvM m Ω) (kk : ∀ m' Ω', WO Ω' → InvC m' Ω' → InvM m' Ω' → AW (GLw l X cs ss Z) 1109 (LL i) [] m') : AW (GLw l X cs ss Z) 244 (LL i) [] m := by
  refine AW.tab (P := P_L_law) (P' := P_L2) ok_L2 ?_
  replace kk : ∀ m' Ω', WO Ω' → InvC m' Ω' → InvM m' Ω' → AW (GLt l X cs ss Z (P_L2)) 1109 (LL i) [] m' := fun a b c d e => AW.tab (P' := P_L_law) ok_L_law (kk a b c d e)
  repeat refine AW.s rfl ?_
  try dsimp only [List.set_cons_zero, List.set_cons_succ, Option.toList_some, Option.toList_none, List.cons_append, List.nil_append]
  refine AW.xld rfl (hin 1 (by decide)) ?_
  repeat refine AW.s rfl ?_
  try dsimp only [List.set_cons_zero, List.set_cons_succ, Option.toList_some, Option.toList_none, List.cons_append, List.nil_append]
  refine AW.VT k_12_23 (C_then (by decide) hW hC) rfl rfl rfl rfl rfl rfl (fun r1 m1 hq => ?_)
  obtain ⟨rfl, c1, c2⟩ := hq
  have hM1 := hM.KC c2
  repeat refine AW.s rfl ?_
  try dsimp only [List.set_cons_zero, List.set_cons_succ, Option.toList_some, Option.toList_none, List.cons_append, List.nil_append]
  refine AW.xld rfl (hin 1 (by decide)) ?_
  repeat refine AW.s rfl ?_
  try dsimp only [List.set_cons_zero, List.set_cons_succ, Option.toList_some, Option.toList_none, List.cons_append, List.nil_append]
  refine AW.VT k_12_27 (M_then (by decide) hW hM1) rfl rfl rfl rfl rfl rfl (fun r2 m2 hq => ?_)
  obtain ⟨rfl, d1, d2⟩ := hq
  try dsimp only [List.set_cons_zero, List.set_cons_succ, Option.toList_some, Option.toList_none, List.cons_append, List.nil_append]
  refine AW.b rfl (fun hc => ?_) (fun hc => ?_)
  · exact kk m2 _ (hW.then _) (c1.KM (hW.then _) d2) d1
  · exact absurd rfl hc
theorem law_3 (hin : ∀ j : Nat, j < 6 → vp_in (nI i + nI j) X.2.2.2.2.2.1) (hW : WO Ω) (hC : InvC m Ω) (hM : InvM m Ω) (kk : ∀ m' Ω', WO Ω' → InvC m' Ω' → InvM m' Ω' → AW (GLw l X cs ss Z) 1109 (LL i) [] m') : AW (GLw l X cs ss Z) 267 (LL i) [] m := by
  refine AW.tab (P := P_L_law) (P' := P_L2) ok_L2 ?_
  replace kk : ∀ m' Ω', WO Ω' → InvC m' Ω' → InvM m' Ω' → AW (GLt l X cs ss Z (P_L2)) 1109 (LL i) [] m' := fun a b c d e => AW.tab (P' := P_L_law) ok_L_law (kk a b c d e)
  repeat refine AW.s rfl ?_
  try dsimp only [List.set_cons_zero, List.set_cons_succ, Option.toList_some, Option.toList_none, List.cons_append, List.nil_append]
  refine AW.VT k_12_28 (C_clear hW hC) rfl rfl rfl rfl rfl rfl (fun r1 m1 hq => ?_)
  obtain ⟨rfl, c1, c2⟩ := hq
  have hM1 := hM.KC c2
  repeat refine AW.s rfl ?_
  try dsimp only [List.set_cons_zero, List.set_cons_succ, Option.toList_some, Option.toList_none, List.cons_append, List.nil_append]
  refine AW.VT k_12_32 (M_clear  hM1) rfl rfl rfl rfl rfl rfl (fun r2 m2 hq => ?_)
  obtain ⟨rfl, d1, d2⟩ := hq
  try dsimp only [List.set_cons_zero, List.set_cons_succ, Option.toList_some, Option.toList_none, List.cons_append, List.nil_append]
  refine AW.b rfl (fun hc => ?_) (fun hc => ?_)
  · exact kk m2 _ (hW.clear) (c1.KM (hW.clear) d2) d1
  · exact absurd rfl hc
theorem law_4 (hin : ∀ j : Nat, j < 6 → vp_in (nI i + nI j) X.2.2.2.2.2.1) (hW : WO Ω) (hC : InvC m Ω) (hM : InvM m Ω) (kk : ∀ m' Ω', WO Ω' → InvC m' Ω' → InvM m' Ω' → AW (GLw l X cs ss Z) 1109 (LL i) [] m') : AW (GLw l X cs ss Z) 280 (LL i) [] m := by
  refine AW.tab (P := P_L_law) (P' := P_L2 ++ P_L3) (okP_app ok_L2 ok_L3) ?_
  replace kk : ∀ m' Ω', WO Ω' → InvC m' Ω' → InvM m' Ω' → AW (GLt l X cs ss Z (P_L2 ++ P_L3)) 1109 (LL i) [] m' := fun a b c d e => AW.tab (P' := P_L_law) ok_L_law (kk a b c d e)
  repeat refine AW.s rfl ?_
  try dsimp only [List.set_cons_zero, List.set_cons_succ, Option.toList_some, Option.toList_none, List.cons_append, List.nil_append]
  refine AW.xld rfl (hin 1 (by decide)) ?_
  repeat refine AW.s rfl ?_
  try dsimp only [List.set_cons_zero, List.set_cons_succ, Option.toList_some, Option.toList_none, List.cons_append, List.nil_append]
  refine AW.xld rfl (hin 2 (by decide)) ?_
  repeat refine AW.s rfl ?_
  try dsimp only [List.set_cons_zero, List.set_cons_succ, Option.toList_some, Option.toList_none, List.cons_append, List.nil_append]
  refine AW.xld rfl (hin 3 (by decide)) ?_
  repeat refine AW.s rfl ?_
  try dsimp only [List.set_cons_zero, List.set_cons_succ, Option.toList_some, Option.toList_none, List.cons_append, List.nil_append]
  refine AW.VT k_12_33 (C_set (by decide) hW hC) rfl rfl rfl rfl rfl rfl (fun r1 m1 hq => ?_)
  obtain ⟨rfl, c1, c2⟩ := hq
  have hM1 := hM.KC c2
  repeat refine AW.s rfl ?_
  try dsimp only [List.set_cons_zero, List.set_cons_succ, Option.toList_some, Option.toList_none, List.cons_append, List.nil_append]
  refine AW.xld rfl (hin 1 (by decide)) ?_
  repeat refine AW.s rfl ?_
  try dsimp only [List.set_cons_zero, List.set_cons_succ, Option.toList_some, Option.toList_none, List.cons_append, List.nil_append]
  refine AW.xld rfl (hin 2 (by decide)) ?_
  repeat refine AW.s rfl ?_
  try dsimp only [List.set_cons_zero, List.set_cons_succ, Option.toList_some, Option.toList_none, List.cons_append, List.nil_append]
  refine AW.xld rfl (hin 3 (by decide)) ?_
  repeat refine AW.s rfl ?_
  try dsimp only [List.set_cons_zero, List.set_cons_succ, Option.toList_some, Option.toList_none, List.cons_append, List.nil_append]
  refine AW.VT k_12_36 (M_set (by decide) hW hM1) rfl rfl rfl rfl rfl rfl (fun r2 m2 hq => ?_)
  obtain ⟨rfl, d1, d2⟩ := hq
  try dsimp only [List.set_cons_zero, List.set_cons_succ, Option.toList_some, Option.toList_none, List.cons_append, List.nil_append]
  refine AW.b rfl (fun hc => ?_) (fun hc => ?_)
  · exact kk m2 _ (hW.set _ _ _) (c1.KM (hW.set _ _ _) d2) d1
  · exact absurd rfl hc
theorem law_5 (hin : ∀ j : Nat, j < 6 → vp_in (nI i + nI j) X.2.2.2.2.2.1) (hW : WO Ω) (hC : InvC m Ω) (hM : InvM m Ω) (kk : ∀ m' Ω', WO Ω' → InvC m' Ω' → InvM m' Ω' → AW (GLw l X cs ss Z) 1109 (LL i) [] m') : AW (GLw l X cs ss Z) 323 (LL i) [] m := by
  refine AW.tab (P := P_L_law) (P' := P_L3 ++ P_L4) (okP_app ok_L3 ok_L4) ?_
  replace kk : ∀ m' Ω', WO Ω' → InvC m' Ω' → InvM m' Ω' → AW (GLt l X cs ss Z (P_L3 ++ P_L4)) 1109 (LL i) [] m' := fun a b c d e => AW.tab (P' := P_L_law) ok_L_law (kk a b c d e)
  repeat refine AW.s rfl ?_
  try dsimp only [List.set_cons_zero, List.set_cons_succ, Option.toList_some, Option.toList_none, List.cons_append, List.nil_append]
  refine AW.xld rfl (hin 1 (by decide)) ?_
  repeat refine AW.s rfl ?_
  try dsimp only [List.set_cons_zero, List.set_cons_succ, Option.toList_some, Option.toList_none, List.cons_append, List.nil_append]
  refine AW.xld rfl (hin 2 (by decide)) ?_
  repeat refine AW.s rfl ?_
  try dsimp only [List.set_cons_zero, List.set_cons_succ, Option.toList_some, Option.toList_none, List.cons_append, List.nil_append]
  refine AW.VT k_12_37 (C_told (by decide) hW hC) rfl rfl rfl rfl rfl rfl (fun r1 m1 hq => ?_)
  obtain ⟨rfl, f1⟩ := hq
  rw [f1]
  have c1 := hC
  have hM1 := hM
  repeat refine AW.s rfl ?_
  try dsimp only [List.set_cons_zero, List.set_cons_succ, Option.toList_some, Option.toList_none, List.cons_append, List.nil_append]
  refine AW.xld rfl (hin 1 (by decide)) ?_
  repeat refine AW.s rfl ?_
  try dsimp only [List.set_cons_zero, List.set_cons_succ, Option.toList_some, Option.toList_none, List.cons_append, List.nil_append]
  refine AW.xld rfl (hin 2 (by decide)) ?_
  repeat refine AW.s rfl ?_
  try dsimp only [List.set_cons_zero, List.set_cons_succ, Option.toList_some, Option.toList_none, List.cons_append, List.nil_append]
  refine AW.VT k_12_40 (M_told (by decide) hW hM1) rfl rfl rfl rfl rfl rfl (fun r2 m2 hq => ?_)
  obtain ⟨rfl, f2⟩ := hq
  rw [f2]
  try dsimp only [List.set_cons_zero, List.set_cons_succ, Option.toList_some, Option.toList_none, List.cons_append, List.nil_append]
  refine AW.b rfl (fun hc => ?_) (fun hc => ?_)
  · exact kk _ _ hW c1 hM1
  · exact absurd rfl hc
theorem law_6 (hin : ∀ j : Nat, j < 6 → vp_in (nI i + nI j) X.2.2.2.2.2.1) (hW : WO Ω) (hC : InvC m Ω) (hM : InvM m Ω) (kk : ∀ m' Ω', WO Ω' → InvC m' Ω' → InvM m' Ω' → AW (GLw l X cs ss Z) 1109 (LL i) [] m') : AW (GLw l X cs ss Z) 356 (LL i) [] m := by
  refine AW.tab (P := P_L_law) (P' := P_L4) ok_L4 ?_
  replace kk : ∀ m' Ω', WO Ω' → InvC m' Ω' → InvM m' Ω' → AW (GLt l X cs ss Z (P_L4)) 1109 (LL i) [] m' := fun a b c d e => AW.tab (P' := P_L_law) ok_L_law (kk a b c d e)
  repeat refine AW.s rfl ?_
  try dsimp only [List.set_cons_zero, List.set_cons_succ, Option.toList_some, Option.toList_none, List.cons_append, List.nil_append]
  refine AW.xld rfl (hin 1 (by decide)) ?_
  repeat refine AW.s rfl ?_
  try dsimp only [List.set_cons_zero, List.set_cons_succ, Option.toList_some, Option.toList_none, List.cons_append, List.nil_append]
  refine AW.VT k_12_41 (C_feed (by decide) hW hC) rfl rfl rfl rfl rfl rfl (fun r1 m1 hq => ?_)
  obtain ⟨rfl, c1, c2⟩ := hq
  have hM1 := hM.KC c2
  repeat refine AW.s rfl ?_
  try dsimp only [List.set_cons_zero, List.set_cons_succ, Option.toList_some, Option.toList_none, List.cons_append, List.nil_append]
  refine AW.xld rfl (hin 1 (by decide)) ?_
  repeat refine AW.s rfl ?_
  try dsimp only [List.set_cons_zero, List.set_cons_succ, Option.toList_some, Option.toList_none, List.cons_append, List.nil_append]
  refine AW.VT k_12_44 (M_feed (by decide) hW hM1) rfl rfl rfl rfl rfl rfl (fun r2 m2 hq => ?_)
  obtain ⟨rfl, d1, d2⟩ := hq
  try dsimp only [List.set_cons_zero, List.set_cons_succ, Option.toList_some, Option.toList_none, List.cons_append, List.nil_append]
  refine AW.b rfl (fun hc => ?_) (fun hc => ?_)
  · exact kk m2 _ (hW.feed _) (c1.KM (hW.feed _) d2) d1
  · exact absurd rfl hc
theorem law_7 (hin : ∀ j : Nat, j < 6 → vp_in (nI i + nI j) X.2.2.2.2.2.1) (hW : WO Ω) (hC : InvC m Ω) (hM : InvM m Ω) (kk : ∀ m' Ω', WO Ω' → InvC m' Ω' → InvM m' Ω' → AW (GLw l X cs ss Z) 1109 (LL i) [] m') : AW (GLw l X cs ss Z) 379 (LL i) [] m := by
  refine AW.tab (P := P_L_law) (P' := P_L4) ok_L4 ?_
  replace kk : ∀ m' Ω', WO Ω' → InvC m' Ω' → InvM m' Ω' → AW (GLt l X cs ss Z (P_L4)) 1109 (LL i) [] m' := fun a b c d e => AW.tab (P' := P_L_law) ok_L_law (kk a b c d e)
  repeat refine AW.s rfl ?_
  try dsimp only [List.set_cons_zero, List.set_cons_succ, Option.toList_some, Option.toList_none, List.cons_append, List.nil_append]
  refine AW.VT k_12_45 (C_text (by decide) hW hC) rfl rfl rfl rfl rfl rfl (fun r1 m1 hq => ?_)
  obtain ⟨rfl, c1, c2⟩ := hq
  have hM1 := hM.KC c2
  repeat refine AW.s rfl ?_
  try dsimp only [List.set_cons_zero, List.set_cons_succ, Option.toList_some, Option.toList_none, List.cons_append, List.nil_append]
  refine AW.VT k_12_48 (M_text (by decide) hW hM1) rfl rfl rfl rfl rfl rfl (fun r2 m2 hq => ?_)
  obtain ⟨rfl, d1, d2⟩ := hq
  try dsimp only [List.set_cons_zero, List.set_cons_succ, Option.toList_some, Option.toList_none, List.cons_append, List.nil_append]
  refine AW.b rfl (fun hc => ?_) (fun hc => ?_)
  · exact kk m2 _ (hW.text) (c1.KM (hW.text) d2) d1
  · exact absurd rfl hc
theorem law_8 (hin : ∀ j : Nat, j < 6 → vp_in (nI i + nI j) X.2.2.2.2.2.1) (hW : WO Ω) (hC : InvC m Ω) (hM : InvM m Ω) (kk : ∀ m' Ω', WO Ω' → InvC m' Ω' → InvM m' Ω' → AW (GLw l X cs ss Z) 1109 (LL i) [] m') : AW (GLw l X cs ss Z) 392 (LL i) [] m := by
  refine AW.tab (P := P_L_law) (P' := P_L4 ++ P_L5) (okP_app ok_L4 ok_L5) ?_
  replace kk : ∀ m' Ω', WO Ω' → InvC m' Ω' → InvM m' Ω' → AW (GLt l X cs ss Z (P_L4 ++ P_L5)) 1109 (LL i) [] m' := fun a b c d e => AW.tab (P' := P_L_law) ok_L_law (kk a b c d e)
  repeat refine AW.s rfl ?_
  try dsimp only [List.set_cons_zero, List.set_cons_succ, Option.toList_some, Option.toList_none, List.cons_append, List.nil_append]
  refine AW.xld rfl (hin 1 (by decide)) ?_
  repeat refine AW.s rfl ?_
  try dsimp only [List.set_cons_zero, List.set_cons_succ, Option.toList_some, Option.toList_none, List.cons_append, List.nil_append]
  refine AW.VT k_12_49 (C_force hW hC) rfl rfl rfl rfl rfl rfl (fun r1 m1 hq => ?_)
  obtain ⟨rfl, c1, c2⟩ := hq
  have hM1 := hM.KC c2
  repeat refine AW.s rfl ?_
  try dsimp only [List.set_cons_zero, List.set_cons_succ, Option.toList_some, Option.toList_none, List.cons_append, List.nil_append]
  refine AW.xld rfl (hin 1 (by decide)) ?_
  repeat refine AW.s rfl ?_
  try dsimp only [List.set_cons_zero, List.set_cons_succ, Option.toList_some, Option.toList_none, List.cons_append, List.nil_append]
  refine AW.VT k_12_52 (M_force (by decide) hW hM1) rfl rfl rfl rfl rfl rfl (fun r2 m2 hq => ?_)
  obtain ⟨rfl, d1, d2⟩ := hq
  try dsimp only [List.set_cons_zero, List.set_cons_succ, Option.toList_some, Option.toList_none, List.cons_append, List.nil_append]
  refine AW.b rfl (fun hc => ?_) (fun hc => ?_)
  · exact kk m2 _ (hW.force _) (c1.KM (hW.force _) d2) d1
  · exact absurd rfl hc
theorem law_9 (hin : ∀ j : Nat, j < 6 → vp_in (nI i + nI j) X.2.2.2.2.2.1) (hW : WO Ω) (hC : InvC m Ω) (hM : InvM m Ω) (kk : ∀ m' Ω', WO Ω' → InvC m' Ω' → InvM m' Ω' → AW (GLw l X cs ss Z) 1109 (LL i) [] m') : AW (GLw l X cs ss Z) 415 (LL i) [] m := by
  refine AW.tab (P := P_L_law) (P' := P_L5 ++ P_L6) (okP_app ok_L5 ok_L6) ?_
  replace kk : ∀ m' Ω', WO Ω' → InvC m' Ω' → InvM m' Ω' → AW (GLt l X cs ss Z (P_L5 ++ P_L6)) 1109 (LL i) [] m' := fun a b c d e => AW.tab (P' := P_L_law) ok_L_law (kk a b c d e)
  repeat refine AW.s rfl ?_
  try dsimp only [List.set_cons_zero, List.set_cons_succ, Option.toList_some, Option.toList_none, List.cons_append, List.nil_append]
  refine AW.xld rfl (hin 1 (by decide)) ?_
  repeat refine AW.s rfl ?_
  try dsimp only [List.set_cons_zero, List.set_cons_succ, Option.toList_some, Option.toList_none, List.cons_append, List.nil_append]
  refine AW.xld rfl (hin 2 (by decide)) ?_
  repeat refine AW.s rfl ?_
  try dsimp only [List.set_cons_zero, List.set_cons_succ, Option.toList_some, Option.toList_none, List.cons_append, List.nil_append]
  refine AW.VT k_12_53 (C_said (by decide) hW hC) rfl rfl rfl rfl rfl rfl (fun r1 m1 hq => ?_)
  obtain ⟨rfl, f1⟩ := hq
  have c1 := hC.fr hW f1
  have hM1 := hM.KC f1.K
  repeat refine AW.s rfl ?_
  try dsimp only [List.set_cons_zero, List.set_cons_succ, Option.toList_some, Option.toList_none, List.cons_append, List.nil_append]
  refine AW.xld rfl (hin 1 (by decide)) ?_
  repeat refine AW.s rfl ?_
  try dsimp only [List.set_cons_zero, List.set_cons_succ, Option.toList_some, Option.toList_none, List.cons_append, List.nil_append]
  refine AW.xld rfl (hin 2 (by decide)) ?_
  repeat refine AW.s rfl ?_
  try dsimp only [List.set_cons_zero, List.set_cons_succ, Option.toList_some, Option.toList_none, List.cons_append, List.nil_append]
  refine AW.VT k_12_56 (M_said (by decide) hW hM1) rfl rfl rfl rfl rfl rfl (fun r2 m2 hq => ?_)
  obtain ⟨rfl, f2⟩ := hq
  have d1 := hM1.fr f2
  have d2 := f2.K
  try dsimp only [List.set_cons_zero, List.set_cons_succ, Option.toList_some, Option.toList_none, List.cons_append, List.nil_append]
  refine AW.b rfl (fun hc => ?_) (fun hc => ?_)
  · exact kk m2 _ hW (c1.KM hW d2) d1
  · exact absurd rfl hc
theorem law_10 (hin : ∀ j : Nat, j < 6 → vp_in (nI i + nI j) X.2.2.2.2.2.1) (hW : WO Ω) (hC : InvC m Ω) (hM : InvM m Ω) (kk : ∀ m' Ω', WO Ω' → InvC m' Ω' → InvM m' Ω' → AW (GLw l X cs ss Z) 1109 (LL i) [] m') : AW (GLw l X cs ss Z) 448 (LL i) [] m := by
  refine AW.tab (P := P_L_law) (P' := P_L6) ok_L6 ?_
  replace kk : ∀ m' Ω', WO Ω' → InvC m' Ω' → InvM m' Ω' → AW (GLt l X cs ss Z (P_L6)) 1109 (LL i) [] m' := fun a b c d e => AW.tab (P' := P_L_law) ok_L_law (kk a b c d e)
  repeat refine AW.s rfl ?_
  try dsimp only [List.set_cons_zero, List.set_cons_succ, Option.toList_some, Option.toList_none, List.cons_append, List.nil_append]
  refine AW.xld rfl (hin 1 (by decide)) ?_
  repeat refine AW.s rfl ?_
  try dsimp only [List.set_cons_zero, List.set_cons_succ, Option.toList_some, Option.toList_none, List.cons_append, List.nil_append]
  refine AW.xld rfl (hin 2 (by decide)) ?_
  repeat refine AW.s rfl ?_
  try dsimp only [List.set_cons_zero, List.set_cons_succ, Option.toList_some, Option.toList_none, List.cons_append, List.nil_append]
  refine AW.xld rfl (hin 3 (by decide)) ?_
  repeat refine AW.s rfl ?_
  try dsimp only [List.set_cons_zero, List.set_cons_succ, Option.toList_some, Option.toList_none, List.cons_append, List.nil_append]
  refine AW.VT k_12_57 (C_turned (by decide) hW hC) rfl rfl rfl rfl rfl rfl (fun r1 m1 hq => ?_)
  obtain ⟨rfl, f1⟩ := hq
  have c1 := hC.fr hW f1
  have hM1 := hM.KC f1.K
  repeat refine AW.s rfl ?_
  try dsimp only [List.set_cons_zero, List.set_cons_succ, Option.toList_some, Option.toList_none, List.cons_append, List.nil_append]
  refine AW.xld rfl (hin 1 (by decide)) ?_
  repeat refine AW.s rfl ?_
  try dsimp only [List.set_cons_zero, List.set_cons_succ, Option.toList_some, Option.toList_none, List.cons_append, List.nil_append]
  refine AW.xld rfl (hin 2 (by decide)) ?_
  repeat refine AW.s rfl ?_
  try dsimp only [List.set_cons_zero, List.set_cons_succ, Option.toList_some, Option.toList_none, List.cons_append, List.nil_append]
  refine AW.xld rfl (hin 3 (by decide)) ?_
  repeat refine AW.s rfl ?_
  try dsimp only [List.set_cons_zero, List.set_cons_succ, Option.toList_some, Option.toList_none, List.cons_append, List.nil_append]
  refine AW.VT k_12_60 (M_turned (by decide) hW hM1) rfl rfl rfl rfl rfl rfl (fun r2 m2 hq => ?_)
  obtain ⟨rfl, f2⟩ := hq
  have d1 := hM1.fr f2
  have d2 := f2.K
  try dsimp only [List.set_cons_zero, List.set_cons_succ, Option.toList_some, Option.toList_none, List.cons_append, List.nil_append]
  refine AW.b rfl (fun hc => ?_) (fun hc => ?_)
  · exact kk m2 _ hW (c1.KM hW d2) d1
  · exact absurd rfl hc
theorem law_11 (hin : ∀ j : Nat, j < 6 → vp_in (nI i + nI j) X.2.2.2.2.2.1) (hW : WO Ω) (hC : InvC m Ω) (hM : InvM m Ω) (kk : ∀ m' Ω', WO Ω' → InvC m' Ω' → InvM m' Ω' → AW (GLw l X cs ss Z) 1109 (LL i) [] m') : AW (GLw l X cs ss Z) 491 (LL i) [] m := by
  refine AW.tab (P := P_L_law) (P' := P_L6 ++ P_L7) (okP_app ok_L6 ok_L7) ?_
  replace kk : ∀ m' Ω', WO Ω' → InvC m' Ω' → InvM m' Ω' → AW (GLt l X cs ss Z (P_L6 ++ P_L7)) 1109 (LL i) [] m' := fun a b c d e => AW.tab (P' := P_L_law) ok_L_law (kk a b c d e)
  repeat refine AW.s rfl ?_
  try dsimp only [List.set_cons_zero, List.set_cons_succ, Option.toList_some, Option.toList_none, List.cons_append, List.nil_append]
  refine AW.xld rfl (hin 1 (by decide)) ?_
  repeat refine AW.s rfl ?_
  try dsimp only [List.set_cons_zero, List.set_cons_succ, Option.toList_some, Option.toList_none, List.cons_append, List.nil_append]
  refine AW.xld rfl (hin 2 (by decide)) ?_
  repeat refine AW.s rfl ?_
  try dsimp only [List.set_cons_zero, List.set_cons_succ, Option.toList_some, Option.toList_none, List.cons_append, List.nil_append]
  refine AW.VT k_12_61 (C_of (by decide) hW hC) rfl rfl rfl rfl rfl rfl (fun r1 m1 hq => ?_)
  obtain ⟨x, rfl, hx, f1⟩ := hq
  have c1 := hC.fr hW f1
  have hM1 := hM.KC f1.K
  repeat refine AW.s rfl ?_
  try dsimp only [List.set_cons_zero, List.set_cons_succ, Option.toList_some, Option.toList_none, List.cons_append, List.nil_append]
  refine AW.xld rfl (hin 1 (by decide)) ?_
  repeat refine AW.s rfl ?_
  try dsimp only [List.set_cons_zero, List.set_cons_succ, Option.toList_some, Option.toList_none, List.cons_append, List.nil_append]
  refine AW.xld rfl (hin 2 (by decide)) ?_
  repeat refine AW.s rfl ?_
  try dsimp only [List.set_cons_zero, List.set_cons_succ, Option.toList_some, Option.toList_none, List.cons_append, List.nil_append]
  refine AW.VT k_12_64 (M_of (by decide) hW hM1) rfl rfl rfl rfl rfl rfl (fun r2 m2 hq => ?_)
  obtain ⟨y, rfl, hy, f2⟩ := hq
  have exy : x = y := ofR_u hW hx hy
  subst exy
  have d1 := hM1.fr f2
  have d2 := f2.K
  try dsimp only [List.set_cons_zero, List.set_cons_succ, Option.toList_some, Option.toList_none, List.cons_append, List.nil_append]
  refine AW.b rfl (fun hc => ?_) (fun hc => ?_)
  · exact kk m2 _ hW (c1.KM hW d2) d1
  · exact absurd rfl hc
theorem law_12 (hin : ∀ j : Nat, j < 6 → vp_in (nI i + nI j) X.2.2.2.2.2.1) (hW : WO Ω) (hC : InvC m Ω) (hM : InvM m Ω) (kk : ∀ m' Ω', WO Ω' → InvC m' Ω' → InvM m' Ω' → AW (GLw l X cs ss Z) 1109 (LL i) [] m') : AW (GLw l X cs ss Z) 524 (LL i) [] m := by
  refine AW.tab (P := P_L_law) (P' := P_L7 ++ P_L8) (okP_app ok_L7 ok_L8) ?_
  replace kk : ∀ m' Ω', WO Ω' → InvC m' Ω' → InvM m' Ω' → AW (GLt l X cs ss Z (P_L7 ++ P_L8)) 1109 (LL i) [] m' := fun a b c d e => AW.tab (P' := P_L_law) ok_L_law (kk a b c d e)
  repeat refine AW.s rfl ?_
  try dsimp only [List.set_cons_zero, List.set_cons_succ, Option.toList_some, Option.toList_none, List.cons_append, List.nil_append]
  refine AW.xld rfl (hin 1 (by decide)) ?_
  repeat refine AW.s rfl ?_
  try dsimp only [List.set_cons_zero, List.set_cons_succ, Option.toList_some, Option.toList_none, List.cons_append, List.nil_append]
  refine AW.VT k_12_65 (C_all (by decide) hW hC) rfl rfl rfl rfl rfl rfl (fun r1 m1 hq => ?_)
  obtain ⟨x, rfl, hx, f1⟩ := hq
  have c1 := hC.fr hW f1
  have hM1 := hM.KC f1.K
  repeat refine AW.s rfl ?_
  try dsimp only [List.set_cons_zero, List.set_cons_succ, Option.toList_some, Option.toList_none, List.cons_append, List.nil_append]
  refine AW.xld rfl (hin 1 (by decide)) ?_
  repeat refine AW.s rfl ?_
  try dsimp only [List.set_cons_zero, List.set_cons_succ, Option.toList_some, Option.toList_none, List.cons_append, List.nil_append]
  refine AW.VT k_12_68 (M_all (by decide) hW hM1) rfl rfl rfl rfl rfl rfl (fun r2 m2 hq => ?_)
  obtain ⟨y, rfl, hy, f2⟩ := hq
  have exy : x = y := allR_u hx hy
  subst exy
  have d1 := hM1.fr f2
  have d2 := f2.K
  try dsimp only [List.set_cons_zero, List.set_cons_succ, Option.toList_some, Option.toList_none, List.cons_append, List.nil_append]
  refine AW.b rfl (fun hc => ?_) (fun hc => ?_)
  · exact kk m2 _ hW (c1.KM hW d2) d1
  · exact absurd rfl hc
theorem law_13 (hin : ∀ j : Nat, j < 6 → vp_in (nI i + nI j) X.2.2.2.2.2.1) (hW : WO Ω) (hC : InvC m Ω) (hM : InvM m Ω) (kk : ∀ m' Ω', WO Ω' → InvC m' Ω' → InvM m' Ω' → AW (GLw l X cs ss Z) 1109 (LL i) [] m') : AW (GLw l X cs ss Z) 547 (LL i) [] m := by
  refine AW.tab (P := P_L_law) (P' := P_L8) ok_L8 ?_
  replace kk : ∀ m' Ω', WO Ω' → InvC m' Ω' → InvM m' Ω' → AW (GLt l X cs ss Z (P_L8)) 1109 (LL i) [] m' := fun a b c d e => AW.tab (P' := P_L_law) ok_L_law (kk a b c d e)
  repeat refine AW.s rfl ?_
  try dsimp only [List.set_cons_zero, List.set_cons_succ, Option.toList_some, Option.toList_none, List.cons_append, List.nil_append]
  refine AW.xld rfl (hin 1 (by decide)) ?_
  repeat refine AW.s rfl ?_
  try dsimp only [List.set_cons_zero, List.set_cons_succ, Option.toList_some, Option.toList_none, List.cons_append, List.nil_append]
  refine AW.VT k_12_69 (C_leave (by decide) hW hC) rfl rfl rfl rfl rfl rfl (fun r1 m1 hq => ?_)
  obtain ⟨rfl, f1⟩ := hq
  have c1 := hC.fr hW f1
  have hM1 := hM.KC f1.K
  repeat refine AW.s rfl ?_
  try dsimp only [List.set_cons_zero, List.set_cons_succ, Option.toList_some, Option.toList_none, List.cons_append, List.nil_append]
  refine AW.xld rfl (hin 1 (by decide)) ?_
  repeat refine AW.s rfl ?_
  try dsimp only [List.set_cons_zero, List.set_cons_succ, Option.toList_some, Option.toList_none, List.cons_append, List.nil_append]
  refine AW.VT k_12_72 (M_leave (by decide) hW hM1) rfl rfl rfl rfl rfl rfl (fun r2 m2 hq => ?_)
  obtain ⟨rfl, d1, d2⟩ := hq
  try dsimp only [List.set_cons_zero, List.set_cons_succ, Option.toList_some, Option.toList_none, List.cons_append, List.nil_append]
  refine AW.b rfl (fun hc => ?_) (fun hc => ?_)
  · exact kk m2 _ hW (c1.KM hW d2) d1
  · exact absurd rfl hc
theorem law_14 (hin : ∀ j : Nat, j < 6 → vp_in (nI i + nI j) X.2.2.2.2.2.1) (hW : WO Ω) (hC : InvC m Ω) (hM : InvM m Ω) (kk : ∀ m' Ω', WO Ω' → InvC m' Ω' → InvM m' Ω' → AW (GLw l X cs ss Z) 1109 (LL i) [] m') : AW (GLw l X cs ss Z) 570 (LL i) [] m := by
  refine AW.tab (P := P_L_law) (P' := P_L8) ok_L8 ?_
  replace kk : ∀ m' Ω', WO Ω' → InvC m' Ω' → InvM m' Ω' → AW (GLt l X cs ss Z (P_L8)) 1109 (LL i) [] m' := fun a b c d e => AW.tab (P' := P_L_law) ok_L_law (kk a b c d e)
  repeat refine AW.s rfl ?_
  try dsimp only [List.set_cons_zero, List.set_cons_succ, Option.toList_some, Option.toList_none, List.cons_append, List.nil_append]
  refine AW.xld rfl (hin 1 (by decide)) ?_
  repeat refine AW.s rfl ?_
  try dsimp only [List.set_cons_zero, List.set_cons_succ, Option.toList_some, Option.toList_none, List.cons_append, List.nil_append]
  refine AW.VT k_12_73 (C_order (by decide) hW hC) rfl rfl rfl rfl rfl rfl (fun r1 m1 hq => ?_)
  obtain ⟨rfl, f1⟩ := hq
  have c1 := hC.fr hW f1
  have hM1 := hM.KC f1.K
  repeat refine AW.s rfl ?_
  try dsimp only [List.set_cons_zero, List.set_cons_succ, Option.toList_some, Option.toList_none, List.cons_append, List.nil_append]
  refine AW.xld rfl (hin 1 (by decide)) ?_
  repeat refine AW.s rfl ?_
  try dsimp only [List.set_cons_zero, List.set_cons_succ, Option.toList_some, Option.toList_none, List.cons_append, List.nil_append]
  refine AW.VT k_12_76 (M_order (by decide) hW hM1) rfl rfl rfl rfl rfl rfl (fun r2 m2 hq => ?_)
  obtain ⟨rfl, d1, d2⟩ := hq
  try dsimp only [List.set_cons_zero, List.set_cons_succ, Option.toList_some, Option.toList_none, List.cons_append, List.nil_append]
  refine AW.b rfl (fun hc => ?_) (fun hc => ?_)
  · exact kk m2 _ hW (c1.KM hW d2) d1
  · exact absurd rfl hc
theorem law_15 (hin : ∀ j : Nat, j < 6 → vp_in (nI i + nI j) X.2.2.2.2.2.1) (hW : WO Ω) (hC : InvC m Ω) (hM : InvM m Ω) (kk : ∀ m' Ω', WO Ω' → InvC m' Ω' → InvM m' Ω' → AW (GLw l X cs ss Z) 1109 (LL i) [] m') : AW (GLw l X cs ss Z) 593 (LL i) [] m := by
  refine AW.tab (P := P_L_law) (P' := P_L8 ++ P_L9) (okP_app ok_L8 ok_L9) ?_
  replace kk : ∀ m' Ω', WO Ω' → InvC m' Ω' → InvM m' Ω' → AW (GLt l X cs ss Z (P_L8 ++ P_L9)) 1109 (LL i) [] m' := fun a b c d e => AW.tab (P' := P_L_law) ok_L_law (kk a b c d e)
  repeat refine AW.s rfl ?_
  try dsimp only [List.set_cons_zero, List.set_cons_succ, Option.toList_some, Option.toList_none, List.cons_append, List.nil_append]
  refine AW.xld rfl (hin 1 (by decide)) ?_
  repeat refine AW.s rfl ?_
  try dsimp only [List.set_cons_zero, List.set_cons_succ, Option.toList_some, Option.toList_none, List.cons_append, List.nil_append]
  refine AW.xld rfl (hin 2 (by decide)) ?_
  repeat refine AW.s rfl ?_
  try dsimp only [List.set_cons_zero, List.set_cons_succ, Option.toList_some, Option.toList_none, List.cons_append, List.nil_append]
  refine AW.VT k_12_77 (C_letter (by decide) hW hC) rfl rfl rfl rfl rfl rfl (fun r1 m1 hq => ?_)
  obtain ⟨rfl, f1⟩ := hq
  have c1 := hC.fr hW f1
  have hM1 := hM.KC f1.K
  repeat refine AW.s rfl ?_
  try dsimp only [List.set_cons_zero, List.set_cons_succ, Option.toList_some, Option.toList_none, List.cons_append, List.nil_append]
  refine AW.xld rfl (hin 1 (by decide)) ?_
  repeat refine AW.s rfl ?_
  try dsimp only [List.set_cons_zero, List.set_cons_succ, Option.toList_some, Option.toList_none, List.cons_append, List.nil_append]
  refine AW.xld rfl (hin 2 (by decide)) ?_
  repeat refine AW.s rfl ?_
  try dsimp only [List.set_cons_zero, List.set_cons_succ, Option.toList_some, Option.toList_none, List.cons_append, List.nil_append]
  refine AW.VT k_12_80 (M_letter (by decide) hW hM1) rfl rfl rfl rfl rfl rfl (fun r2 m2 hq => ?_)
  obtain ⟨rfl, f2⟩ := hq
  have d1 := hM1.fr f2
  have d2 := f2.K
  try dsimp only [List.set_cons_zero, List.set_cons_succ, Option.toList_some, Option.toList_none, List.cons_append, List.nil_append]
  refine AW.b rfl (fun hc => ?_) (fun hc => ?_)
  · exact kk m2 _ hW (c1.KM hW d2) d1
  · exact absurd rfl hc
theorem law_16 (hin : ∀ j : Nat, j < 6 → vp_in (nI i + nI j) X.2.2.2.2.2.1) (hW : WO Ω) (hC : InvC m Ω) (hM : InvM m Ω) (kk : ∀ m' Ω', WO Ω' → InvC m' Ω' → InvM m' Ω' → AW (GLw l X cs ss Z) 1109 (LL i) [] m') : AW (GLw l X cs ss Z) 626 (LL i) [] m := by
  refine AW.tab (P := P_L_law) (P' := P_L9 ++ P_L10) (okP_app ok_L9 ok_L10) ?_
  replace kk : ∀ m' Ω', WO Ω' → InvC m' Ω' → InvM m' Ω' → AW (GLt l X cs ss Z (P_L9 ++ P_L10)) 1109 (LL i) [] m' := fun a b c d e => AW.tab (P' := P_L_law) ok_L_law (kk a b c d e)
  repeat refine AW.s rfl ?_
  try dsimp only [List.set_cons_zero, List.set_cons_succ, Option.toList_some, Option.toList_none, List.cons_append, List.nil_append]
  refine AW.xld rfl (hin 1 (by decide)) ?_
  repeat refine AW.s rfl ?_
  try dsimp only [List.set_cons_zero, List.set_cons_succ, Option.toList_some, Option.toList_none, List.cons_append, List.nil_append]
  refine AW.xld rfl (hin 2 (by decide)) ?_
  repeat refine AW.s rfl ?_
  try dsimp only [List.set_cons_zero, List.set_cons_succ, Option.toList_some, Option.toList_none, List.cons_append, List.nil_append]
  refine AW.VT k_12_81 (C_heard (by decide) hW hC) rfl rfl rfl rfl rfl rfl (fun r1 m1 hq => ?_)
  obtain ⟨x, rfl, hx, f1⟩ := hq
  have c1 := hC.fr hW f1
  have hM1 := hM.KC f1.K
  repeat refine AW.s rfl ?_
  try dsimp only [List.set_cons_zero, List.set_cons_succ, Option.toList_some, Option.toList_none, List.cons_append, List.nil_append]
  refine AW.xld rfl (hin 1 (by decide)) ?_
  repeat refine AW.s rfl ?_
  try dsimp only [List.set_cons_zero, List.set_cons_succ, Option.toList_some, Option.toList_none, List.cons_append, List.nil_append]
  refine AW.xld rfl (hin 2 (by decide)) ?_
  repeat refine AW.s rfl ?_
  try dsimp only [List.set_cons_zero, List.set_cons_succ, Option.toList_some, Option.toList_none, List.cons_append, List.nil_append]
  refine AW.VT k_12_84 (M_heard (by decide) hW hM1) rfl rfl rfl rfl rfl rfl (fun r2 m2 hq => ?_)
  obtain ⟨y, rfl, hy, f2⟩ := hq
  have exy : x = y := heardR_u hx hy
  subst exy
  have d1 := hM1.fr f2
  have d2 := f2.K
  try dsimp only [List.set_cons_zero, List.set_cons_succ, Option.toList_some, Option.toList_none, List.cons_append, List.nil_append]
  refine AW.b rfl (fun hc => ?_) (fun hc => ?_)
  · exact kk m2 _ hW (c1.KM hW d2) d1
  · exact absurd rfl hc
theorem law_17 (hin : ∀ j : Nat, j < 6 → vp_in (nI i + nI j) X.2.2.2.2.2.1) (hW : WO Ω) (hC : InvC m Ω) (hM : InvM m Ω) (kk : ∀ m' Ω', WO Ω' → InvC m' Ω' → InvM m' Ω' → AW (GLw l X cs ss Z) 1109 (LL i) [] m') : AW (GLw l X cs ss Z) 659 (LL i) [] m := by
  refine AW.tab (P := P_L_law) (P' := P_L10 ++ P_L11) (okP_app ok_L10 ok_L11) ?_
  replace kk : ∀ m' Ω', WO Ω' → InvC m' Ω' → InvM m' Ω' → AW (GLt l X cs ss Z (P_L10 ++ P_L11)) 1109 (LL i) [] m' := fun a b c d e => AW.tab (P' := P_L_law) ok_L_law (kk a b c d e)
  repeat refine AW.s rfl ?_
  try dsimp only [List.set_cons_zero, List.set_cons_succ, Option.toList_some, Option.toList_none, List.cons_append, List.nil_append]
  refine AW.xld rfl (hin 1 (by decide)) ?_
  repeat refine AW.s rfl ?_
  try dsimp only [List.set_cons_zero, List.set_cons_succ, Option.toList_some, Option.toList_none, List.cons_append, List.nil_append]
  refine AW.xld rfl (hin 2 (by decide)) ?_
  repeat refine AW.s rfl ?_
  try dsimp only [List.set_cons_zero, List.set_cons_succ, Option.toList_some, Option.toList_none, List.cons_append, List.nil_append]
  refine AW.xld rfl (hin 3 (by decide)) ?_
  repeat refine AW.s rfl ?_
  try dsimp only [List.set_cons_zero, List.set_cons_succ, Option.toList_some, Option.toList_none, List.cons_append, List.nil_append]
  refine AW.xld rfl (hin 4 (by decide)) ?_
  repeat refine AW.s rfl ?_
  try dsimp only [List.set_cons_zero, List.set_cons_succ, Option.toList_some, Option.toList_none, List.cons_append, List.nil_append]
  refine AW.VT k_12_85 (C_found (by decide) hW hC) rfl rfl rfl rfl rfl rfl (fun r1 m1 hq => ?_)
  obtain ⟨x, rfl, hx, f1⟩ := hq
  have c1 := hC.fr hW f1
  have hM1 := hM.KC f1.K
  repeat refine AW.s rfl ?_
  try dsimp only [List.set_cons_zero, List.set_cons_succ, Option.toList_some, Option.toList_none, List.cons_append, List.nil_append]
  refine AW.xld rfl (hin 1 (by decide)) ?_
  repeat refine AW.s rfl ?_
  try dsimp only [List.set_cons_zero, List.set_cons_succ, Option.toList_some, Option.toList_none, List.cons_append, List.nil_append]
  refine AW.xld rfl (hin 2 (by decide)) ?_
  repeat refine AW.s rfl ?_
  try dsimp only [List.set_cons_zero, List.set_cons_succ, Option.toList_some, Option.toList_none, List.cons_append, List.nil_append]
  refine AW.xld rfl (hin 3 (by decide)) ?_
  repeat refine AW.s rfl ?_
  try dsimp only [List.set_cons_zero, List.set_cons_succ, Option.toList_some, Option.toList_none, List.cons_append, List.nil_append]
  refine AW.xld rfl (hin 4 (by decide)) ?_
  repeat refine AW.s rfl ?_
  try dsimp only [List.set_cons_zero, List.set_cons_succ, Option.toList_some, Option.toList_none, List.cons_append, List.nil_append]
  refine AW.VT k_12_89 (M_found (by decide) hW hM1) rfl rfl rfl rfl rfl rfl (fun r2 m2 hq => ?_)
  obtain ⟨y, rfl, hy, f2⟩ := hq
  have exy : x = y := foundR_u hW hx hy
  subst exy
  have d1 := hM1.fr f2
  have d2 := f2.K
  try dsimp only [List.set_cons_zero, List.set_cons_succ, Option.toList_some, Option.toList_none, List.cons_append, List.nil_append]
  refine AW.b rfl (fun hc => ?_) (fun hc => ?_)
  · exact kk m2 _ hW (c1.KM hW d2) d1
  · exact absurd rfl hc
theorem law_18 (hin : ∀ j : Nat, j < 6 → vp_in (nI i + nI j) X.2.2.2.2.2.1) (hW : WO Ω) (hC : InvC m Ω) (hM : InvM m Ω) (kk : ∀ m' Ω', WO Ω' → InvC m' Ω' → InvM m' Ω' → AW (GLw l X cs ss Z) 1109 (LL i) [] m') : AW (GLw l X cs ss Z) 712 (LL i) [] m := by
  refine AW.tab (P := P_L_law) (P' := P_L11) ok_L11 ?_
  replace kk : ∀ m' Ω', WO Ω' → InvC m' Ω' → InvM m' Ω' → AW (GLt l X cs ss Z (P_L11)) 1109 (LL i) [] m' := fun a b c d e => AW.tab (P' := P_L_law) ok_L_law (kk a b c d e)
  repeat refine AW.s rfl ?_
  try dsimp only [List.set_cons_zero, List.set_cons_succ, Option.toList_some, Option.toList_none, List.cons_append, List.nil_append]
  refine AW.VT k_12_90 (C_alikeTexts (by decide) hW hC) rfl rfl rfl rfl rfl rfl (fun r1 m1 hq => ?_)
  obtain ⟨x, rfl, hx, f1⟩ := hq
  have c1 := hC.fr hW f1
  have hM1 := hM.KC f1.K
  repeat refine AW.s rfl ?_
  try dsimp only [List.set_cons_zero, List.set_cons_succ, Option.toList_some, Option.toList_none, List.cons_append, List.nil_append]
  refine AW.VT k_12_93 (M_alikeTexts (by decide) hW hM1) rfl rfl rfl rfl rfl rfl (fun r2 m2 hq => ?_)
  obtain ⟨y, rfl, hy, f2⟩ := hq
  have exy : x = y := alTR_u hx hy
  subst exy
  have d1 := hM1.fr f2
  have d2 := f2.K
  try dsimp only [List.set_cons_zero, List.set_cons_succ, Option.toList_some, Option.toList_none, List.cons_append, List.nil_append]
  refine AW.b rfl (fun hc => ?_) (fun hc => ?_)
  · exact kk m2 _ hW (c1.KM hW d2) d1
  · exact absurd rfl hc
theorem law_19 (hin : ∀ j : Nat, j < 6 → vp_in (nI i + nI j) X.2.2.2.2.2.1) (hW : WO Ω) (hC : InvC m Ω) (hM : InvM m Ω) (kk : ∀ m' Ω', WO Ω' → InvC m' Ω' → InvM m' Ω' → AW (GLw l X cs ss Z) 1109 (LL i) [] m') : AW (GLw l X cs ss Z) 725 (LL i) [] m := by
  refine AW.tab (P := P_L_law) (P' := P_L11 ++ P_L12) (okP_app ok_L11 ok_L12) ?_
  replace kk : ∀ m' Ω', WO Ω' → InvC m' Ω' → InvM m' Ω' → AW (GLt l X cs ss Z (P_L11 ++ P_L12)) 1109 (LL i) [] m' := fun a b c d e => AW.tab (P' := P_L_law) ok_L_law (kk a b c d e)
  repeat refine AW.s rfl ?_
  try dsimp only [List.set_cons_zero, List.set_cons_succ, Option.toList_some, Option.toList_none, List.cons_append, List.nil_append]
  refine AW.xld rfl (hin 1 (by decide)) ?_
  repeat refine AW.s rfl ?_
  try dsimp only [List.set_cons_zero, List.set_cons_succ, Option.toList_some, Option.toList_none, List.cons_append, List.nil_append]
  refine AW.xld rfl (hin 2 (by decide)) ?_
  repeat refine AW.s rfl ?_
  try dsimp only [List.set_cons_zero, List.set_cons_succ, Option.toList_some, Option.toList_none, List.cons_append, List.nil_append]
  refine AW.VT k_12_94 (C_film (by decide) hW hC) rfl rfl rfl rfl rfl rfl (fun r1 m1 hq => ?_)
  obtain ⟨rfl, c1, c2⟩ := hq
  have hM1 := hM.KC c2
  repeat refine AW.s rfl ?_
  try dsimp only [List.set_cons_zero, List.set_cons_succ, Option.toList_some, Option.toList_none, List.cons_append, List.nil_append]
  refine AW.xld rfl (hin 1 (by decide)) ?_
  repeat refine AW.s rfl ?_
  try dsimp only [List.set_cons_zero, List.set_cons_succ, Option.toList_some, Option.toList_none, List.cons_append, List.nil_append]
  refine AW.xld rfl (hin 2 (by decide)) ?_
  repeat refine AW.s rfl ?_
  try dsimp only [List.set_cons_zero, List.set_cons_succ, Option.toList_some, Option.toList_none, List.cons_append, List.nil_append]
  refine AW.VT k_12_97 (M_film (by decide) hW hM1) rfl rfl rfl rfl rfl rfl (fun r2 m2 hq => ?_)
  obtain ⟨rfl, d1, d2⟩ := hq
  try dsimp only [List.set_cons_zero, List.set_cons_succ, Option.toList_some, Option.toList_none, List.cons_append, List.nil_append]
  refine AW.b rfl (fun hc => ?_) (fun hc => ?_)
  · exact kk m2 _ (hW.film _ _) (c1.KM (hW.film _ _) d2) d1
  · exact absurd rfl hc
theorem law_20 (hin : ∀ j : Nat, j < 6 → vp_in (nI i + nI j) X.2.2.2.2.2.1) (hW : WO Ω) (hC : InvC m Ω) (hM : InvM m Ω) (kk : ∀ m' Ω', WO Ω' → InvC m' Ω' → InvM m' Ω' → AW (GLw l X cs ss Z) 1109 (LL i) [] m') : AW (GLw l X cs ss Z) 758 (LL i) [] m := by
  refine AW.tab (P := P_L_law) (P' := P_L12) ok_L12 ?_
  replace kk : ∀ m' Ω', WO Ω' → InvC m' Ω' → InvM m' Ω' → AW (GLt l X cs ss Z (P_L12)) 1109 (LL i) [] m' := fun a b c d e => AW.tab (P' := P_L_law) ok_L_law (kk a b c d e)
  repeat refine AW.s rfl ?_
  try dsimp only [List.set_cons_zero, List.set_cons_succ, Option.toList_some, Option.toList_none, List.cons_append, List.nil_append]
  refine AW.xld rfl (hin 1 (by decide)) ?_
  repeat refine AW.s rfl ?_
  try dsimp only [List.set_cons_zero, List.set_cons_succ, Option.toList_some, Option.toList_none, List.cons_append, List.nil_append]
  refine AW.VT k_12_98 (C_drawn (by decide) hW hC) rfl rfl rfl rfl rfl rfl (fun r1 m1 hq => ?_)
  obtain ⟨rfl, f1⟩ := hq
  have c1 := hC.fr hW f1
  have hM1 := hM.KC f1.K
  repeat refine AW.s rfl ?_
  try dsimp only [List.set_cons_zero, List.set_cons_succ, Option.toList_some, Option.toList_none, List.cons_append, List.nil_append]
  refine AW.xld rfl (hin 1 (by decide)) ?_
  repeat refine AW.s rfl ?_
  try dsimp only [List.set_cons_zero, List.set_cons_succ, Option.toList_some, Option.toList_none, List.cons_append, List.nil_append]
  refine AW.VT k_12_101 (M_drawn (by decide) hW hM1) rfl rfl rfl rfl rfl rfl (fun r2 m2 hq => ?_)
  obtain ⟨rfl, d1, d2⟩ := hq
  try dsimp only [List.set_cons_zero, List.set_cons_succ, Option.toList_some, Option.toList_none, List.cons_append, List.nil_append]
  refine AW.b rfl (fun hc => ?_) (fun hc => ?_)
  · exact kk m2 _ hW (c1.KM hW d2) d1
  · exact absurd rfl hc
theorem law_21 (hin : ∀ j : Nat, j < 6 → vp_in (nI i + nI j) X.2.2.2.2.2.1) (hW : WO Ω) (hC : InvC m Ω) (hM : InvM m Ω) (kk : ∀ m' Ω', WO Ω' → InvC m' Ω' → InvM m' Ω' → AW (GLw l X cs ss Z) 1109 (LL i) [] m') : AW (GLw l X cs ss Z) 781 (LL i) [] m := by
  refine AW.tab (P := P_L_law) (P' := P_L12 ++ P_L13) (okP_app ok_L12 ok_L13) ?_
  replace kk : ∀ m' Ω', WO Ω' → InvC m' Ω' → InvM m' Ω' → AW (GLt l X cs ss Z (P_L12 ++ P_L13)) 1109 (LL i) [] m' := fun a b c d e => AW.tab (P' := P_L_law) ok_L_law (kk a b c d e)
  repeat refine AW.s rfl ?_
  try dsimp only [List.set_cons_zero, List.set_cons_succ, Option.toList_some, Option.toList_none, List.cons_append, List.nil_append]
  refine AW.xld rfl (hin 1 (by decide)) ?_
  repeat refine AW.s rfl ?_
  try dsimp only [List.set_cons_zero, List.set_cons_succ, Option.toList_some, Option.toList_none, List.cons_append, List.nil_append]
  refine AW.xld rfl (hin 2 (by decide)) ?_
  repeat refine AW.s rfl ?_
  try dsimp only [List.set_cons_zero, List.set_cons_succ, Option.toList_some, Option.toList_none, List.cons_append, List.nil_append]
  refine AW.xld rfl (hin 3 (by decide)) ?_
  repeat refine AW.s rfl ?_
  try dsimp only [List.set_cons_zero, List.set_cons_succ, Option.toList_some, Option.toList_none, List.cons_append, List.nil_append]
  refine AW.VT k_12_102 (C_chance (by decide) hW hC) rfl rfl rfl rfl rfl rfl (fun r1 m1 hq => ?_)
  obtain ⟨rfl, f1⟩ := hq
  have c1 := hC.fr hW f1
  have hM1 := hM.KC f1.K
  repeat refine AW.s rfl ?_
  try dsimp only [List.set_cons_zero, List.set_cons_succ, Option.toList_some, Option.toList_none, List.cons_append, List.nil_append]
  refine AW.xld rfl (hin 1 (by decide)) ?_
  repeat refine AW.s rfl ?_
  try dsimp only [List.set_cons_zero, List.set_cons_succ, Option.toList_some, Option.toList_none, List.cons_append, List.nil_append]
  refine AW.xld rfl (hin 2 (by decide)) ?_
  repeat refine AW.s rfl ?_
  try dsimp only [List.set_cons_zero, List.set_cons_succ, Option.toList_some, Option.toList_none, List.cons_append, List.nil_append]
  refine AW.xld rfl (hin 3 (by decide)) ?_
  repeat refine AW.s rfl ?_
  try dsimp only [List.set_cons_zero, List.set_cons_succ, Option.toList_some, Option.toList_none, List.cons_append, List.nil_append]
  refine AW.VT k_12_106 (M_chance (by decide) hW hM1) rfl rfl rfl rfl rfl rfl (fun r2 m2 hq => ?_)
  obtain ⟨rfl, d1, d2⟩ := hq
  repeat refine AW.s rfl ?_
  try dsimp only [List.set_cons_zero, List.set_cons_succ, Option.toList_some, Option.toList_none, List.cons_append, List.nil_append]
  refine AW.b rfl (fun hc => ?_) (fun hc => ?_)
  · exact kk m2 _ hW (c1.KM hW d2) d1
  · exact absurd ((lg_cmp_eq _ _).mpr rfl) hc
theorem law_22 (hin : ∀ j : Nat, j < 6 → vp_in (nI i + nI j) X.2.2.2.2.2.1) (hW : WO Ω) (hC : InvC m Ω) (hM : InvM m Ω) (kk : ∀ m' Ω', WO Ω' → InvC m' Ω' → InvM m' Ω' → AW (GLw l X cs ss Z) 1109 (LL i) [] m') : AW (GLw l X cs ss Z) 825 (LL i) [] m := by
  refine AW.tab (P := P_L_law) (P' := P_L13) ok_L13 ?_
  replace kk : ∀ m' Ω', WO Ω' → InvC m' Ω' → InvM m' Ω' → AW (GLt l X cs ss Z (P_L13)) 1109 (LL i) [] m' := fun a b c d e => AW.tab (P' := P_L_law) ok_L_law (kk a b c d e)
  repeat refine AW.s rfl ?_
  try dsimp only [List.set_cons_zero, List.set_cons_succ, Option.toList_some, Option.toList_none, List.cons_append, List.nil_append]
  refine AW.VT k_12_107 (C_image (by decide) hW hC) rfl rfl rfl rfl rfl rfl (fun r1 m1 hq => ?_)
  obtain ⟨rfl, c1, c2⟩ := hq
  have hM1 := hM.KC c2
  repeat refine AW.s rfl ?_
  try dsimp only [List.set_cons_zero, List.set_cons_succ, Option.toList_some, Option.toList_none, List.cons_append, List.nil_append]
  refine AW.VT k_12_110 (M_image (by decide) hW hM1) rfl rfl rfl rfl rfl rfl (fun r2 m2 hq => ?_)
  obtain ⟨rfl, d1, d2⟩ := hq
  try dsimp only [List.set_cons_zero, List.set_cons_succ, Option.toList_some, Option.toList_none, List.cons_append, List.nil_append]
  refine AW.b rfl (fun hc => ?_) (fun hc => ?_)
  · exact kk m2 _ (hW.image) (c1.KM (hW.image) d2) d1
  · exact absurd rfl hc
theorem law_23 (hin : ∀ j : Nat, j < 6 → vp_in (nI i + nI j) X.2.2.2.2.2.1) (hW : WO Ω) (hC : InvC m Ω) (hM : InvM m Ω) (kk : ∀ m' Ω', WO Ω' → InvC m' Ω' → InvM m' Ω' → AW (GLw l X cs ss Z) 1109 (LL i) [] m') : AW (GLw l X cs ss Z) 838 (LL i) [] m := by
  refine AW.tab (P := P_L_law) (P' := P_L13 ++ P_L14) (okP_app ok_L13 ok_L14) ?_
  replace kk : ∀ m' Ω', WO Ω' → InvC m' Ω' → InvM m' Ω' → AW (GLt l X cs ss Z (P_L13 ++ P_L14)) 1109 (LL i) [] m' := fun a b c d e => AW.tab (P' := P_L_law) ok_L_law (kk a b c d e)
  repeat refine AW.s rfl ?_
  try dsimp only [List.set_cons_zero, List.set_cons_succ, Option.toList_some, Option.toList_none, List.cons_append, List.nil_append]
  refine AW.VT k_12_111 (C_back (by decide) hW hC) rfl rfl rfl rfl rfl rfl (fun r1 m1 hq => ?_)
  obtain ⟨rfl, c1, c2⟩ := hq
  have hM1 := hM.KC c2
  repeat refine AW.s rfl ?_
  try dsimp only [List.set_cons_zero, List.set_cons_succ, Option.toList_some, Option.toList_none, List.cons_append, List.nil_append]
  refine AW.VT k_12_114 (M_back (by decide) hW hM1) rfl rfl rfl rfl rfl rfl (fun r2 m2 hq => ?_)
  obtain ⟨rfl, d1, d2⟩ := hq
  try dsimp only [List.set_cons_zero, List.set_cons_succ, Option.toList_some, Option.toList_none, List.cons_append, List.nil_append]
  refine AW.b rfl (fun hc => ?_) (fun hc => ?_)
  · exact kk m2 _ (hW.back) (c1.KM (hW.back) d2) d1
  · exact absurd rfl hc
theorem law_24 (hin : ∀ j : Nat, j < 6 → vp_in (nI i + nI j) X.2.2.2.2.2.1) (hW : WO Ω) (hC : InvC m Ω) (hM : InvM m Ω) (kk : ∀ m' Ω', WO Ω' → InvC m' Ω' → InvM m' Ω' → AW (GLw l X cs ss Z) 1109 (LL i) [] m') : AW (GLw l X cs ss Z) 851 (LL i) [] m := by
  refine AW.tab (P := P_L_law) (P' := P_L14) ok_L14 ?_
  replace kk : ∀ m' Ω', WO Ω' → InvC m' Ω' → InvM m' Ω' → AW (GLt l X cs ss Z (P_L14)) 1109 (LL i) [] m' := fun a b c d e => AW.tab (P' := P_L_law) ok_L_law (kk a b c d e)
  repeat refine AW.s rfl ?_
  try dsimp only [List.set_cons_zero, List.set_cons_succ, Option.toList_some, Option.toList_none, List.cons_append, List.nil_append]
  refine AW.xld rfl (hin 1 (by decide)) ?_
  repeat refine AW.s rfl ?_
  try dsimp only [List.set_cons_zero, List.set_cons_succ, Option.toList_some, Option.toList_none, List.cons_append, List.nil_append]
  refine AW.VT k_12_115 (C_count  hC) rfl rfl rfl rfl rfl rfl (fun r1 m1 hq => ?_)
  obtain ⟨rfl, f1⟩ := hq
  rw [f1]
  have c1 := hC
  have hM1 := hM
  repeat refine AW.s rfl ?_
  try dsimp only [List.set_cons_zero, List.set_cons_succ, Option.toList_some, Option.toList_none, List.cons_append, List.nil_append]
  refine AW.xld rfl (hin 1 (by decide)) ?_
  repeat refine AW.s rfl ?_
  try dsimp only [List.set_cons_zero, List.set_cons_succ, Option.toList_some, Option.toList_none, List.cons_append, List.nil_append]
  refine AW.VT k_12_118 (M_count  hM1) rfl rfl rfl rfl rfl rfl (fun r2 m2 hq => ?_)
  obtain ⟨rfl, f2⟩ := hq
  rw [f2]
  try dsimp only [List.set_cons_zero, List.set_cons_succ, Option.toList_some, Option.toList_none, List.cons_append, List.nil_append]
  refine AW.b rfl (fun hc => ?_) (fun hc => ?_)
  · exact kk _ _ hW c1 hM1
  · exact absurd rfl hc
theorem law_25 (hin : ∀ j : Nat, j < 6 → vp_in (nI i + nI j) X.2.2.2.2.2.1) (hW : WO Ω) (hC : InvC m Ω) (hM : InvM m Ω) (kk : ∀ m' Ω', WO Ω' → InvC m' Ω' → InvM m' Ω' → AW (GLw l X cs ss Z) 1109 (LL i) [] m') : AW (GLw l X cs ss Z) 874 (LL i) [] m := by
  refine AW.tab (P := P_L_law) (P' := P_L14 ++ P_L15) (okP_app ok_L14 ok_L15) ?_
  replace kk : ∀ m' Ω', WO Ω' → InvC m' Ω' → InvM m' Ω' → AW (GLt l X cs ss Z (P_L14 ++ P_L15)) 1109 (LL i) [] m' := fun a b c d e => AW.tab (P' := P_L_law) ok_L_law (kk a b c d e)
  repeat refine AW.s rfl ?_
  try dsimp only [List.set_cons_zero, List.set_cons_succ, Option.toList_some, Option.toList_none, List.cons_append, List.nil_append]
  refine AW.xld rfl (hin 1 (by decide)) ?_
  repeat refine AW.s rfl ?_
  try dsimp only [List.set_cons_zero, List.set_cons_succ, Option.toList_some, Option.toList_none, List.cons_append, List.nil_append]
  refine AW.xld rfl (hin 2 (by decide)) ?_
  repeat refine AW.s rfl ?_
  try dsimp only [List.set_cons_zero, List.set_cons_succ, Option.toList_some, Option.toList_none, List.cons_append, List.nil_append]
  refine AW.xld rfl (hin 3 (by decide)) ?_
  repeat refine AW.s rfl ?_
  try dsimp only [List.set_cons_zero, List.set_cons_succ, Option.toList_some, Option.toList_none, List.cons_append, List.nil_append]
  refine AW.VT k_12_119 (C_sheet (by decide) hW hC) rfl rfl rfl rfl rfl rfl (fun r1 m1 hq => ?_)
  obtain ⟨rfl, c1, c2⟩ := hq
  have hM1 := hM.KC c2
  repeat refine AW.s rfl ?_
  try dsimp only [List.set_cons_zero, List.set_cons_succ, Option.toList_some, Option.toList_none, List.cons_append, List.nil_append]
  refine AW.xld rfl (hin 1 (by decide)) ?_
  repeat refine AW.s rfl ?_
  try dsimp only [List.set_cons_zero, List.set_cons_succ, Option.toList_some, Option.toList_none, List.cons_append, List.nil_append]
  refine AW.xld rfl (hin 2 (by decide)) ?_
  repeat refine AW.s rfl ?_
  try dsimp only [List.set_cons_zero, List.set_cons_succ, Option.toList_some, Option.toList_none, List.cons_append, List.nil_append]
  refine AW.xld rfl (hin 3 (by decide)) ?_
  repeat refine AW.s rfl ?_
  try dsimp only [List.set_cons_zero, List.set_cons_succ, Option.toList_some, Option.toList_none, List.cons_append, List.nil_append]
  refine AW.VT k_12_122 (M_sheet (by decide) hW hM1) rfl rfl rfl rfl rfl rfl (fun r2 m2 hq => ?_)
  obtain ⟨rfl, d1, d2⟩ := hq
  try dsimp only [List.set_cons_zero, List.set_cons_succ, Option.toList_some, Option.toList_none, List.cons_append, List.nil_append]
  refine AW.b rfl (fun hc => ?_) (fun hc => ?_)
  · exact kk m2 _ (hW.sheet _ _ _) (c1.KM (hW.sheet _ _ _) d2) d1
  · exact absurd rfl hc
theorem law_26 (hin : ∀ j : Nat, j < 6 → vp_in (nI i + nI j) X.2.2.2.2.2.1) (hW : WO Ω) (hC : InvC m Ω) (hM : InvM m Ω) (kk : ∀ m' Ω', WO Ω' → InvC m' Ω' → InvM m' Ω' → AW (GLw l X cs ss Z) 1109 (LL i) [] m') : AW (GLw l X cs ss Z) 917 (LL i) [] m := by
  refine AW.tab (P := P_L_law) (P' := P_L15 ++ P_L16) (okP_app ok_L15 ok_L16) ?_
  replace kk : ∀ m' Ω', WO Ω' → InvC m' Ω' → InvM m' Ω' → AW (GLt l X cs ss Z (P_L15 ++ P_L16)) 1109 (LL i) [] m' := fun a b c d e => AW.tab (P' := P_L_law) ok_L_law (kk a b c d e)
  repeat refine AW.s rfl ?_
  try dsimp only [List.set_cons_zero, List.set_cons_succ, Option.toList_some, Option.toList_none, List.cons_append, List.nil_append]
  refine AW.xld rfl (hin 1 (by decide)) ?_
  repeat refine AW.s rfl ?_
  try dsimp only [List.set_cons_zero, List.set_cons_succ, Option.toList_some, Option.toList_none, List.cons_append, List.nil_append]
  refine AW.xld rfl (hin 2 (by decide)) ?_
  repeat refine AW.s rfl ?_
  try dsimp only [List.set_cons_zero, List.set_cons_succ, Option.toList_some, Option.toList_none, List.cons_append, List.nil_append]
  refine AW.xld rfl (hin 3 (by decide)) ?_
  repeat refine AW.s rfl ?_
  try dsimp only [List.set_cons_zero, List.set_cons_succ, Option.toList_some, Option.toList_none, List.cons_append, List.nil_append]
  refine AW.VT k_12_123 (C_cell (by decide) hW hC) rfl rfl rfl rfl rfl rfl (fun r1 m1 hq => ?_)
  obtain ⟨rfl, c1, c2⟩ := hq
  have hM1 := hM.KC c2
  repeat refine AW.s rfl ?_
  try dsimp only [List.set_cons_zero, List.set_cons_succ, Option.toList_some, Option.toList_none, List.cons_append, List.nil_append]
  refine AW.xld rfl (hin 1 (by decide)) ?_
  repeat refine AW.s rfl ?_
  try dsimp only [List.set_cons_zero, List.set_cons_succ, Option.toList_some, Option.toList_none, List.cons_append, List.nil_append]
  refine AW.xld rfl (hin 2 (by decide)) ?_
  repeat refine AW.s rfl ?_
  try dsimp only [List.set_cons_zero, List.set_cons_succ, Option.toList_some, Option.toList_none, List.cons_append, List.nil_append]
  refine AW.xld rfl (hin 3 (by decide)) ?_
  repeat refine AW.s rfl ?_
  try dsimp only [List.set_cons_zero, List.set_cons_succ, Option.toList_some, Option.toList_none, List.cons_append, List.nil_append]
  refine AW.VT k_12_126 (M_cell (by decide) hW hM1) rfl rfl rfl rfl rfl rfl (fun r2 m2 hq => ?_)
  obtain ⟨rfl, d1, d2⟩ := hq
  try dsimp only [List.set_cons_zero, List.set_cons_succ, Option.toList_some, Option.toList_none, List.cons_append, List.nil_append]
  refine AW.b rfl (fun hc => ?_) (fun hc => ?_)
  · exact kk m2 _ (hW.cell _ _ _) (c1.KM (hW.cell _ _ _) d2) d1
  · exact absurd rfl hc
theorem law_27 (hin : ∀ j : Nat, j < 6 → vp_in (nI i + nI j) X.2.2.2.2.2.1) (hW : WO Ω) (hC : InvC m Ω) (hM : InvM m Ω) (kk : ∀ m' Ω', WO Ω' → InvC m' Ω' → InvM m' Ω' → AW (GLw l X cs ss Z) 1109 (LL i) [] m') : AW (GLw l X cs ss Z) 960 (LL i) [] m := by
  refine AW.tab (P := P_L_law) (P' := P_L16 ++ P_L17) (okP_app ok_L16 ok_L17) ?_
  replace kk : ∀ m' Ω', WO Ω' → InvC m' Ω' → InvM m' Ω' → AW (GLt l X cs ss Z (P_L16 ++ P_L17)) 1109 (LL i) [] m' := fun a b c d e => AW.tab (P' := P_L_law) ok_L_law (kk a b c d e)
  repeat refine AW.s rfl ?_
  try dsimp only [List.set_cons_zero, List.set_cons_succ, Option.toList_some, Option.toList_none, List.cons_append, List.nil_append]
  refine AW.xld rfl (hin 1 (by decide)) ?_
  repeat refine AW.s rfl ?_
  try dsimp only [List.set_cons_zero, List.set_cons_succ, Option.toList_some, Option.toList_none, List.cons_append, List.nil_append]
  refine AW.xld rfl (hin 2 (by decide)) ?_
  repeat refine AW.s rfl ?_
  try dsimp only [List.set_cons_zero, List.set_cons_succ, Option.toList_some, Option.toList_none, List.cons_append, List.nil_append]
  refine AW.xld rfl (hin 3 (by decide)) ?_
  repeat refine AW.s rfl ?_
  try dsimp only [List.set_cons_zero, List.set_cons_succ, Option.toList_some, Option.toList_none, List.cons_append, List.nil_append]
  refine AW.xld rfl (hin 4 (by decide)) ?_
  repeat refine AW.s rfl ?_
  try dsimp only [List.set_cons_zero, List.set_cons_succ, Option.toList_some, Option.toList_none, List.cons_append, List.nil_append]
  refine AW.xld rfl (hin 5 (by decide)) ?_
  repeat refine AW.s rfl ?_
  try dsimp only [List.set_cons_zero, List.set_cons_succ, Option.toList_some, Option.toList_none, List.cons_append, List.nil_append]
  refine AW.VT k_12_127 (C_copy (by decide) hW hC) rfl rfl rfl rfl rfl rfl (fun r1 m1 hq => ?_)
  obtain ⟨rfl, c1, c2⟩ := hq
  have hM1 := hM.KC c2
  repeat refine AW.s rfl ?_
  try dsimp only [List.set_cons_zero, List.set_cons_succ, Option.toList_some, Option.toList_none, List.cons_append, List.nil_append]
  refine AW.xld rfl (hin 1 (by decide)) ?_
  repeat refine AW.s rfl ?_
  try dsimp only [List.set_cons_zero, List.set_cons_succ, Option.toList_some, Option.toList_none, List.cons_append, List.nil_append]
  refine AW.xld rfl (hin 2 (by decide)) ?_
  repeat refine AW.s rfl ?_
  try dsimp only [List.set_cons_zero, List.set_cons_succ, Option.toList_some, Option.toList_none, List.cons_append, List.nil_append]
  refine AW.xld rfl (hin 3 (by decide)) ?_
  repeat refine AW.s rfl ?_
  try dsimp only [List.set_cons_zero, List.set_cons_succ, Option.toList_some, Option.toList_none, List.cons_append, List.nil_append]
  refine AW.xld rfl (hin 4 (by decide)) ?_
  repeat refine AW.s rfl ?_
  try dsimp only [List.set_cons_zero, List.set_cons_succ, Option.toList_some, Option.toList_none, List.cons_append, List.nil_append]
  refine AW.xld rfl (hin 5 (by decide)) ?_
  repeat refine AW.s rfl ?_
  try dsimp only [List.set_cons_zero, List.set_cons_succ, Option.toList_some, Option.toList_none, List.cons_append, List.nil_append]
  refine AW.VT k_12_131 (M_copy (by decide) hW hM1) rfl rfl rfl rfl rfl rfl (fun r2 m2 hq => ?_)
  obtain ⟨rfl, d1, d2⟩ := hq
  try dsimp only [List.set_cons_zero, List.set_cons_succ, Option.toList_some, Option.toList_none, List.cons_append, List.nil_append]
  refine AW.b rfl (fun hc => ?_) (fun hc => ?_)
  · exact kk m2 _ (hW.copy _ _ _ _ _) (c1.KM (hW.copy _ _ _ _ _) d2) d1
  · exact absurd rfl hc
theorem law_28 (hin : ∀ j : Nat, j < 6 → vp_in (nI i + nI j) X.2.2.2.2.2.1) (hW : WO Ω) (hC : InvC m Ω) (hM : InvM m Ω) (kk : ∀ m' Ω', WO Ω' → InvC m' Ω' → InvM m' Ω' → AW (GLw l X cs ss Z) 1109 (LL i) [] m') : AW (GLw l X cs ss Z) 1023 (LL i) [] m := by
  refine AW.tab (P := P_L_law) (P' := P_L17 ++ P_L18) (okP_app ok_L17 ok_L18) ?_
  replace kk : ∀ m' Ω', WO Ω' → InvC m' Ω' → InvM m' Ω' → AW (GLt l X cs ss Z (P_L17 ++ P_L18)) 1109 (LL i) [] m' := fun a b c d e => AW.tab (P' := P_L_law) ok_L_law (kk a b c d e)
  repeat refine AW.s rfl ?_
  try dsimp only [List.set_cons_zero, List.set_cons_succ, Option.toList_some, Option.toList_none, List.cons_append, List.nil_append]
  refine AW.xld rfl (hin 1 (by decide)) ?_
  repeat refine AW.s rfl ?_
  try dsimp only [List.set_cons_zero, List.set_cons_succ, Option.toList_some, Option.toList_none, List.cons_append, List.nil_append]
  refine AW.xld rfl (hin 2 (by decide)) ?_
  repeat refine AW.s rfl ?_
  try dsimp only [List.set_cons_zero, List.set_cons_succ, Option.toList_some, Option.toList_none, List.cons_append, List.nil_append]
  refine AW.xld rfl (hin 3 (by decide)) ?_
  repeat refine AW.s rfl ?_
  try dsimp only [List.set_cons_zero, List.set_cons_succ, Option.toList_some, Option.toList_none, List.cons_append, List.nil_append]
  refine AW.xld rfl (hin 4 (by decide)) ?_
  repeat refine AW.s rfl ?_
  try dsimp only [List.set_cons_zero, List.set_cons_succ, Option.toList_some, Option.toList_none, List.cons_append, List.nil_append]
  refine AW.VT k_12_132 (C_rules (by decide) hW hC) rfl rfl rfl rfl rfl rfl (fun r1 m1 hq => ?_)
  obtain ⟨rfl, c1, c2⟩ := hq
  have hM1 := hM.KC c2
  repeat refine AW.s rfl ?_
  try dsimp only [List.set_cons_zero, List.set_cons_succ, Option.toList_some, Option.toList_none, List.cons_append, List.nil_append]
  refine AW.xld rfl (hin 1 (by decide)) ?_
  repeat refine AW.s rfl ?_
  try dsimp only [List.set_cons_zero, List.set_cons_succ, Option.toList_some, Option.toList_none, List.cons_append, List.nil_append]
  refine AW.xld rfl (hin 2 (by decide)) ?_
  repeat refine AW.s rfl ?_
  try dsimp only [List.set_cons_zero, List.set_cons_succ, Option.toList_some, Option.toList_none, List.cons_append, List.nil_append]
  refine AW.xld rfl (hin 3 (by decide)) ?_
  repeat refine AW.s rfl ?_
  try dsimp only [List.set_cons_zero, List.set_cons_succ, Option.toList_some, Option.toList_none, List.cons_append, List.nil_append]
  refine AW.xld rfl (hin 4 (by decide)) ?_
  repeat refine AW.s rfl ?_
  try dsimp only [List.set_cons_zero, List.set_cons_succ, Option.toList_some, Option.toList_none, List.cons_append, List.nil_append]
  refine AW.VT k_12_135 (M_rules (by decide) hW hM1) rfl rfl rfl rfl rfl rfl (fun r2 m2 hq => ?_)
  obtain ⟨rfl, d1, d2⟩ := hq
  try dsimp only [List.set_cons_zero, List.set_cons_succ, Option.toList_some, Option.toList_none, List.cons_append, List.nil_append]
  refine AW.b rfl (fun hc => ?_) (fun hc => ?_)
  · exact kk m2 _ (hW.rules _ _ _ _) (c1.KM (hW.rules _ _ _ _) d2) d1
  · exact absurd rfl hc
theorem law_29 (hin : ∀ j : Nat, j < 6 → vp_in (nI i + nI j) X.2.2.2.2.2.1) (hW : WO Ω) (hC : InvC m Ω) (hM : InvM m Ω) (kk : ∀ m' Ω', WO Ω' → InvC m' Ω' → InvM m' Ω' → AW (GLw l X cs ss Z) 1109 (LL i) [] m') : AW (GLw l X cs ss Z) 1076 (LL i) [] m := by
  refine AW.tab (P := P_L_law) (P' := P_L18 ++ P_L19) (okP_app ok_L18 ok_L19) ?_
  replace kk : ∀ m' Ω', WO Ω' → InvC m' Ω' → InvM m' Ω' → AW (GLt l X cs ss Z (P_L18 ++ P_L19)) 1109 (LL i) [] m' := fun a b c d e => AW.tab (P' := P_L_law) ok_L_law (kk a b c d e)
  repeat refine AW.s rfl ?_
  try dsimp only [List.set_cons_zero, List.set_cons_succ, Option.toList_some, Option.toList_none, List.cons_append, List.nil_append]
  refine AW.xld rfl (hin 1 (by decide)) ?_
  repeat refine AW.s rfl ?_
  try dsimp only [List.set_cons_zero, List.set_cons_succ, Option.toList_some, Option.toList_none, List.cons_append, List.nil_append]
  refine AW.xld rfl (hin 2 (by decide)) ?_
  repeat refine AW.s rfl ?_
  try dsimp only [List.set_cons_zero, List.set_cons_succ, Option.toList_some, Option.toList_none, List.cons_append, List.nil_append]
  refine AW.VT k_12_136 (C_taken (by decide) hW hC) rfl rfl rfl rfl rfl rfl (fun r1 m1 hq => ?_)
  obtain ⟨rfl, f1⟩ := hq
  rw [f1]
  have c1 := hC
  have hM1 := hM
  repeat refine AW.s rfl ?_
  try dsimp only [List.set_cons_zero, List.set_cons_succ, Option.toList_some, Option.toList_none, List.cons_append, List.nil_append]
  refine AW.xld rfl (hin 1 (by decide)) ?_
  repeat refine AW.s rfl ?_
  try dsimp only [List.set_cons_zero, List.set_cons_succ, Option.toList_some, Option.toList_none, List.cons_append, List.nil_append]
  refine AW.xld rfl (hin 2 (by decide)) ?_
  repeat refine AW.s rfl ?_
  try dsimp only [List.set_cons_zero, List.set_cons_succ, Option.toList_some, Option.toList_none, List.cons_append, List.nil_append]
  refine AW.VT k_12_139 (M_taken (by decide) hW hM1) rfl rfl rfl rfl rfl rfl (fun r2 m2 hq => ?_)
  obtain ⟨rfl, f2⟩ := hq
  rw [f2]
  try dsimp only [List.set_cons_zero, List.set_cons_succ, Option.toList_some, Option.toList_none, List.cons_append, List.nil_append]
  refine AW.b rfl (fun hc => ?_) (fun hc => ?_)
  · exact kk _ _ hW c1 hM1
  · exact absurd rfl hc
end
