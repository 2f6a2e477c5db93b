-- ===== the model: text =====
theorem MOK.at {m m' : Mem} {q : Nat} {cs : List Int32} (h : MOK m q cs) (h1 : m' 253 q = m 253 q) (h2 : ∀ k, k < 160 → m' 252 (160 * q + k) = m 252 (160 * q + k)) : MOK m' q cs := by
  obtain ⟨a1, a2, a3, a4⟩ := h
  refine ⟨by rw [h1]; exact a1, a2, fun k c hk => ?_, a4⟩
  have := (List.getElem?_eq_some_iff.mp hk).1
  rw [h2 k (by omega)]
  exact a3 k c hk
theorem HD.MOK {m : Mem} {q : Nat} {e : FX} (h : HD m q e) : ∃ cs, MOK m q cs ∧ ∀ F, mvl F cs = e F := by
  obtain ⟨cs, h1, h2, h3, h4⟩ := h
  have hr : ∀ F, rnC F cs (some []) = some [e F] := fun F => by
    have := h1.1 F []
    rw [List.map_nil, List.append_nil] at this
    exact this
  refine ⟨cs, ⟨h3, h2, fun k c hk => ⟨h4 k c hk, h1.2.1 c (List.mem_of_getElem? hk)⟩, fun F => ⟨e F, hr F⟩⟩, fun F => ?_⟩
  unfold mvl
  rw [hr F]
  rfl
section
variable {l : Launch} {X : XT} {d : Nat} {m : Mem} {Ω : OM}
theorem M_text (hd : 7 ≤ d) (hW : WO Ω) (hI : InvM m Ω) : Meth l X d M_X11_text [vR 12 243] m (fun r m' => r = some (vI (textF Ω).1) ∧ InvM m' (textF Ω).2 ∧ KM m m') := by
  obtain ⟨d, rfl⟩ : ∃ e, d = e + 1 := ⟨d - 1, by omega⟩
  have h6 := hW.2.2.2.1
  have hN := hW.2.2.2.2.1
  obtain ⟨i1, i2, i3, i4, i5, i6, i7, i8, i9, i10⟩ := id hI
  refine E_X11_text (ls := [vR 12 243, vU]) rfl rfl ?_
  repeat refine AW.s rfl ?_
  try dsimp only [List.set_cons_zero, List.set_cons_succ, Option.toList_some, Option.toList_none, List.cons_append, List.nil_append]
  rw [i4]
  refine AW.b rfl (fun hc => ?_) (fun hc => ?_)
  · have e6 : oQ Ω = 6 := (nI_eq (b := 6) (by omega) (by decide)).mp hc
    have e0 : textF Ω = (-4, Ω) := by unfold textF; rw [if_pos e6]
    rw [e0]
    repeat refine AW.s rfl ?_
    try dsimp only [List.set_cons_zero, List.set_cons_succ, Option.toList_some, Option.toList_none, List.cons_append, List.nil_append]
    exact AW.ri rfl rfl rfl ⟨rfl, hI, KM.rf⟩
  · have e6 : ¬ oQ Ω = 6 := fun q => hc (by rw [q]; rfl)
    have e0 : textF Ω = txR Ω (rdP (tks (oB Ω) (oN Ω) 161 0)) := by unfold textF; rw [if_neg e6]
    have hby : ∀ k, k < oN Ω → ∃ b, b < 256 ∧ m 251 k = nI b := fun k hk => by rw [i7 k hk]; exact hW.2.2.2.2.2.1 k hk
    have hC : RC m (m 251) (oN Ω) := ⟨i6, hN, rfl, hby, i9, i10⟩
    have hEO := tks_EOK (g := m 251) (s := oN Ω) hN
    repeat refine AW.s rfl ?_
    try dsimp only [List.set_cons_zero, List.set_cons_succ, Option.toList_some, Option.toList_none, List.cons_append, List.nil_append]
    rw [i4]
    refine AW.V k_11_172 ((c_MreadAll (t := oQ Ω) (ts := tks (m 251) (oN Ω) 161 0) (by omega) hC (by omega) rfl hEO.2 (tks_NOk hby 161 0 (Nat.zero_le _)) hEO.1)) rfl rfl rfl rfl rfl rfl (fun r1 m1 hq => ?_)
    obtain ⟨hf, hres⟩ := hq
    rw [tks_c i7 161 0 (Nat.zero_le _)] at hres
    -- what the model holds then, whatever was read
    have hI2 : ∀ mm : Mem, (∀ a, a ≠ 243 → mm a = m1 a) → mm 243 12 = 0 → (∀ k, k ≠ 12 → k ≠ 13 → mm 243 k = m1 243 k) → ∀ (n : Nat) (V : Nat → Nat → (Nat → Int32) → Int32), mm 243 13 = nI n → (∀ t, t < n → ∀ p, p < 3 → ∃ cs, MOK mm (3 * t + p) cs ∧ ∀ F, clI (mvl F cs) = V t p F) → InvM mm (uV (uT Ω 0 (oB Ω)) n V) := by
      intro mm g1 g2 g3 n V g4 g5
      have gg : ∀ a, a ≠ 243 → a ≠ 252 → a ≠ 253 → a ≠ 256 → a ≠ 257 → mm a = m a := fun a x0 x1 x2 x3 x4 => by rw [g1 a x0]; exact hf.1 a x0 x1 x2 x3 x4
      have g0 : ∀ k, k ≠ 12 → k ≠ 13 → (k < 17 ∨ (20 < k ∧ k < 24) ∨ k = 27 ∨ 29 < k) → mm 243 k = m 243 k := fun k x y z => by rw [g3 k x y]; exact hf.2.2.2 k z
      refine ⟨i1.fr (g0 0 (by decide) (by decide) (by omega)) (g0 1 (by decide) (by decide) (by omega)) (g0 5 (by decide) (by decide) (by omega)) (g0 9 (by decide) (by decide) (by omega)) (g0 14 (by decide) (by decide) (by omega)) (fun a x1 x2 => gg a (by omega) (by omega) (by omega) (by omega) (by omega)), by rw [g0 39 (by decide) (by decide) (by omega)]; exact i2, fun k => (i3 k).fr (gg 265 (by decide) (by decide) (by decide) (by decide) (by decide)), g4, g5, g2, fun k hk => absurd hk (Nat.not_lt_zero k), ?_, by rw [gg 254 (by decide) (by decide) (by decide) (by decide) (by decide)]; exact i9, by rw [gg 255 (by decide) (by decide) (by decide) (by decide) (by decide)]; exact i10⟩
      rw [gg 266 (by decide) (by decide) (by decide) (by decide) (by decide), gg 267 (by decide) (by decide) (by decide) (by decide) (by decide), gg 268 (by decide) (by decide) (by decide) (by decide) (by decide)]
      exact i8
    have old : ∀ mm : Mem, (∀ a, a ≠ 243 → mm a = m1 a) → ∀ t, t < oQ Ω → ∀ p, p < 3 → ∃ cs, MOK mm (3 * t + p) cs ∧ ∀ F, clI (mvl F cs) = oV Ω t p F := by
      intro mm g1 t ht p hp
      obtain ⟨cs, x1, x2⟩ := i5 t ht p hp
      exact ⟨cs, x1.at (by rw [g1 253 (by decide), hf.2.2.1 _ (by omega)]) (fun k hk => by rw [g1 252 (by decide), hf.2.1 _ (by omega)]), x2⟩
    have hK : ∀ mm : Mem, (∀ a, a ≠ 243 → mm a = m1 a) → KM m mm := fun mm g1 a ha => by rw [g1 a (by omega)]; exact hf.1 a (by omega) (by omega) (by omega) (by omega) (by omega)
    have h13 : m1 243 13 = nI (oQ Ω) := by rw [hf.2.2.2 13 (by omega)]; exact i4
    rcases hres with ⟨rs, hrs, rfl⟩ | ⟨es, rs, hrs, rfl, hT⟩
    · have hrs := rdL_P.1 rs hrs
      rw [hrs] at e0
      have e0 : textF Ω = (-100 - nI (hpl rs), uT Ω 0 (oB Ω)) := e0
      rw [e0]
      have hpb : hpl rs < 2 ^ 31 := by
        have := rd_rest (tks (oB Ω) (oN Ω) 161 0)
        rw [hrs] at this
        obtain ⟨j, hj⟩ := this
        have hj : rs = (tks (oB Ω) (oN Ω) 161 0).drop j := hj
        rw [hj]
        have := hpl_lt (g := oB Ω) (s := oN Ω) 161 0 (Nat.zero_le _) j
        omega
      repeat refine AW.s rfl ?_
      try dsimp only [List.set_cons_zero, List.set_cons_succ, Option.toList_some, Option.toList_none, List.cons_append, List.nil_append]
      refine AW.b rfl (fun hc => ?_) (fun hc => ?_)
      · exact absurd hc (nI_m1 hpb)
      · repeat refine AW.s rfl ?_
        try dsimp only [List.set_cons_zero, List.set_cons_succ, Option.toList_some, Option.toList_none, List.cons_append, List.nil_append]
        refine AW.ri rfl rfl rfl ⟨rfl, ?_, hK _ (fun a x => mUp_a x)⟩
        exact hI2 _ (fun a x => mUp_a x) (mUp_s _ _ _ _) (fun k x y => mUp_n (Or.inr x)) (oQ Ω) (oV Ω) (by rw [mUp_n (Or.inr (by decide))]; exact h13) (old _ (fun a x => mUp_a x))
    · obtain ⟨a, b, c, rfl, hrs2⟩ := rdL_P.2 es rs hrs
      rw [hrs2] at e0
      have e0 : textF Ω = (nI (oQ Ω), uV (uT Ω 0 (oB Ω)) (oQ Ω + 1) (fun t p F => if t = oQ Ω then txV (a, b, c) p F else oV Ω t p F)) := e0
      rw [e0]
      repeat refine AW.s rfl ?_
      try dsimp only [List.set_cons_zero, List.set_cons_succ, Option.toList_some, Option.toList_none, List.cons_append, List.nil_append]
      refine AW.b rfl (fun hc => ?_) (fun hc => ?_)
      · repeat refine AW.s rfl ?_
        try dsimp only [List.set_cons_zero, List.set_cons_succ, Option.toList_some, Option.toList_none, List.cons_append, List.nil_append]
        rw [show mUp m1 243 12 0 243 13 = nI (oQ Ω) by rw [mUp_n (Or.inr (by decide))]; exact h13, nI_1, mUp_s, show nI (oQ Ω + 1) - 1 = nI (oQ Ω) from pk_sub (b := 1) (by omega)]
        have gm : ∀ q, q ≠ 243 → mUp (mUp m1 243 12 0) 243 13 (nI (oQ Ω + 1)) q = m1 q := fun q x => by rw [mUp_a x, mUp_a x]
        refine AW.ri rfl rfl rfl ⟨rfl, ?_, hK _ gm⟩
        refine hI2 _ gm (by rw [mUp_n (Or.inr (by decide))]; exact mUp_s _ _ _ _) (fun k x y => by rw [mUp_n (Or.inr y), mUp_n (Or.inr x)]) (oQ Ω + 1) _ (mUp_s _ _ _ _) (fun t ht p hp => ?_)
        by_cases e : t = oQ Ω
        · subst e
          have hs : ∃ x : FX, [a, b, c][p]? = some x ∧ ∀ F, txV (a, b, c) p F = clI (x F) := by
            rcases (show p = 0 ∨ p = 1 ∨ p = 2 by omega) with q | q | q <;> subst q
            · exact ⟨a, rfl, fun F => rfl⟩
            · exact ⟨b, rfl, fun F => rfl⟩
            · exact ⟨c, rfl, fun F => rfl⟩
          obtain ⟨x, hx1, hx2⟩ := hs
          obtain ⟨cs, y1, y2⟩ := (hT p x hx1).MOK
          refine ⟨cs, y1.at (by rw [gm 253 (by decide)]) (fun k hk => by rw [gm 252 (by decide)]), fun F => ?_⟩
          show _ = if oQ Ω = oQ Ω then txV (a, b, c) p F else _
          rw [if_pos rfl, hx2 F, y2 F]
        · obtain ⟨cs, x1, x2⟩ := old _ gm t (by omega) p hp
          refine ⟨cs, x1, fun F => ?_⟩
          show _ = if t = oQ Ω then txV (a, b, c) p F else oV Ω t p F
          rw [if_neg e]
          exact x2 F
      · exact absurd rfl hc
end
