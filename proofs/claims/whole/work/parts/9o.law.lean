-- ===== law: its walk =====
theorem okv_52 {X : XT} : okv X (vR 52 0) := Or.inr (Or.inl ⟨rfl, fun h => absurd h (by decide)⟩)
section
variable {G : GG} {pc np tg : Nat} {lit : Int32} {ls r : List AV} {m : Mem}
theorem AW.xld {i : Int32} (hf : G.2.2.2.2.2.1.2.2.2.2.2.lookup pc = some (.iaload, np, tg, lit)) (hi : vp_in i G.2.1.2.2.2.2.2.1) (kk : AW G np ls (vI (G.2.1.2.2.2.2.2.2 i.toNatClampNeg) :: r) m) : AW G pc ls (vI i :: vR 52 0 :: r) m := by
  intro hl hol hos p e s mid args below meth co C H locs la hPw hS hL
  obtain ⟨hx, hb, -, -, hown, hts, -, -, hKS, -, hbs, -, -, hok⟩ := id C
  obtain ⟨hd, hn⟩ := fetch_1 hok hf rfl
  have hn : np = pc + 1 := hn
  subst hn
  have h9 := hKS.2.2.2.2.2.2.2.2
  exact va_sld hx hb hKS.2.2.2.2.2.2.2.1 (Nat.lt_of_lt_of_le h9 hbs) (Nat.not_le.mpr h9) hS hi hd (kk hl hol (okl_cons.mpr ⟨trivial, (okl_cons.mp (okl_cons.mp hos).2).2⟩) p e s mid args below meth co C H locs la hPw hS hL)
theorem AW.xlen (hf : G.2.2.2.2.2.1.2.2.2.2.2.lookup pc = some (.arraylength, np, tg, lit)) (kk : AW G np ls (vI (nI G.2.1.2.2.2.2.2.1) :: r) m) : AW G pc ls (vR 52 0 :: r) m := by
  intro hl hol hos p e s mid args below meth co C H locs la hPw hS hL
  obtain ⟨hx, hb, -, -, hown, hts, -, -, hKS, -, hbs, -, -, hok⟩ := id C
  obtain ⟨hd, hn⟩ := fetch_1 hok hf rfl
  have hn : np = pc + 1 := hn
  subst hn
  have h9 := hKS.2.2.2.2.2.2.2.2
  exact va_slen hx hb hKS.2.2.2.2.2.2.2.1 (Nat.lt_of_lt_of_le h9 hbs) (Nat.not_le.mpr h9) hS hd (kk hl hol (okl_cons.mpr ⟨trivial, (okl_cons.mp hos).2⟩) p e s mid args below meth co C H locs la hPw hS hL)
end
theorem InvM.KC {m m' : Mem} {Ω : OM} (h : InvM m Ω) (hf : KC m m') : InvM m' Ω := h.g (h.1.fr (by rw [hf 243 (by decide)]) (by rw [hf 243 (by decide)]) (by rw [hf 243 (by decide)]) (by rw [hf 243 (by decide)]) (by rw [hf 243 (by decide)]) (fun a h1 h2 => hf a (by omega))) (fun a h1 h2 => hf a (by omega)) (fun k hk => by rw [hf 243 (by decide)])
theorem InvC.KM {m m' : Mem} {Ω : OM} (h : InvC m Ω) (hW : WO Ω) (hf : KM m m') : InvC m' Ω := by
  obtain ⟨h1, h2, h3, h4, h5, h6, h7, h8⟩ := h
  obtain ⟨w1, w2, w3, w4, -⟩ := hW
  refine ⟨h1.fr w1.2.1 (fun a _ _ => hf a (by omega)), by rw [hf 0 (by omega)]; exact h2, fun k => (h3 k).fr (w2 k).1.2.1 (fun a _ _ => hf a (by omega)), by rw [hf 0 (by omega)]; exact h4, fun t ht => ?_, by rw [hf 36 (by omega)]; exact h6, fun k hk => by rw [hf 37 (by omega)]; exact h7 k hk, fun i hi => ?_⟩
  · obtain ⟨en, e1, e2⟩ := h5 t ht
    have hz : ∀ p, p < 3 → ∀ F, tellV m' (199 + 6 * t) en p F = tellV m (199 + 6 * t) en p F := fun p hp F => by
      unfold tellV
      rw [tval_eq e1 hp (hf _ (by omega)) (hf _ (by omega)) (hf _ (by omega)) (fun _ _ => rfl)]
    exact ⟨en, e1.fr (hf _ (by omega)) (hf _ (by omega)) (hf _ (by omega)) (hf _ (by omega)), fun p hp F => by rw [hz p hp]; exact e2 p hp F⟩
  · rw [hf (235 + 2 * i) (by omega), hf (235 + 2 * i + 1) (by omega)]
    exact h8 i hi
abbrev GLw (l : Launch) (X : XT) (cs ss : Nat) (Z : List Frame → Array Value → State → State → Prop) : GG := (l, X, room_1, cs, ss, M_L_law, Z)
section
variable {l : Launch} {X : XT} {cs ss : Nat} {Z : List Frame → Array Value → State → State → Prop} {μ : MI} {Q : Option AV → Mem → Prop} {pc np tg idx n : Nat} {lit : Int32} {ls st As rest : List AV} {m : Mem} {i : Nat} {Ω : OM}
theorem AW.VL {t h : Nat} (hk : CVok 12 idx μ n) (hM : Meth l X 100 μ (vR t h :: As) m Q) (hf : P_L_law.lookup pc = some (.invokevirtual idx, np, tg, lit)) (hs : splV n st = some (As, t, h, rest)) (ht : (Nat.ble 1 t && Nat.ble t 12) = true) (ht2 : Rn (t - 1) = μ.1.cls) (h41 : Nat.ble μ.2.2.1 41 = true) (hr8 : Nat.ble (rest.map catA).sum 8 = true)
    (kk : ∀ (r : Option AV) (m' : Mem), Q r m' → AW (GLw l X cs ss Z) np ls (r.toList ++ rest) m') : AW (GLw l X cs ss Z) pc ls st m := by
  rw [Bool.and_eq_true] at ht
  have h41 := Nat.le_of_ble_eq_true h41
  exact AW.callV (G := GLw l X cs ss Z) (d' := 100) hf hs hk ⟨Nat.le_of_ble_eq_true ht.1, Nat.lt_succ_of_le (Nat.le_of_ble_eq_true ht.2), ht2⟩ ⟨by show 100 + 1 ≤ 2048; omega, by show 8 + (μ.2.2.1 + 11) + 60 * 100 ≤ 84000; omega⟩ (Nat.le_of_ble_eq_true hr8) hM kk
/-- law's locals -/
abbrev LL (i : Nat) : List AV := [vR 52 0, vR 11 0, vR 12 243, vI (nI i)]
theorem law_0 (hin : ∀ j : Nat, j < 6 → vp_in (nI i + nI j) X.2.2.2.2.2.1) (hW : WO Ω) (hC : InvC m Ω) (hM : InvM m Ω) (kk : ∀ m' Ω', WO Ω' → InvC m' Ω' → InvM m' Ω' → AW (GLw l X cs ss Z) 1109 (LL i) [] m') : AW (GLw l X cs ss Z) 168 (LL i) [] m := by
  repeat refine AW.s rfl ?_
  try dsimp only [List.set_cons_zero, List.set_cons_succ, Option.toList_some, Option.toList_none, List.cons_append, List.nil_append]
  refine AW.xld rfl (hin 1 (by decide)) ?_
  repeat refine AW.s rfl ?_
  try dsimp only [List.set_cons_zero, List.set_cons_succ, Option.toList_some, Option.toList_none, List.cons_append, List.nil_append]
  refine AW.xld rfl (hin 2 (by decide)) ?_
  repeat refine AW.s rfl ?_
  try dsimp only [List.set_cons_zero, List.set_cons_succ, Option.toList_some, Option.toList_none, List.cons_append, List.nil_append]
  refine AW.VL k_12_13 (C_learn (by decide) hW hC) rfl rfl rfl rfl rfl rfl (fun r1 m1 hq => ?_)
  obtain ⟨rfl, c1, c2⟩ := hq
  repeat refine AW.s rfl ?_
  try dsimp only [List.set_cons_zero, List.set_cons_succ, Option.toList_some, Option.toList_none, List.cons_append, List.nil_append]
  refine AW.xld rfl (hin 1 (by decide)) ?_
  repeat refine AW.s rfl ?_
  try dsimp only [List.set_cons_zero, List.set_cons_succ, Option.toList_some, Option.toList_none, List.cons_append, List.nil_append]
  refine AW.xld rfl (hin 2 (by decide)) ?_
  repeat refine AW.s rfl ?_
  try dsimp only [List.set_cons_zero, List.set_cons_succ, Option.toList_some, Option.toList_none, List.cons_append, List.nil_append]
  refine AW.VL k_12_17 (M_learn (by decide) hW (hM.KC c2)) rfl rfl rfl rfl rfl rfl (fun r1 m2 hq => ?_)
  obtain ⟨rfl, d1, d2⟩ := hq
  try dsimp only [List.set_cons_zero, List.set_cons_succ, Option.toList_some, Option.toList_none, List.cons_append, List.nil_append]
  refine AW.b rfl (fun hc => ?_) (fun hc => ?_)
  · exact kk m2 _ (hW.learn _ _) (c1.KM (hW.learn _ _) d2) d1
  · exact absurd rfl hc
end
