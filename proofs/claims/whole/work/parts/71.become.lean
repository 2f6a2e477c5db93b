theorem cpy_row {m : Mem} {h0 h1 n k : Nat} {a b c : Int32} (ha : a.toNatClampNeg = 0) (hb : b.toNatClampNeg = 0) (hc : c.toNatClampNeg = n) (hk : k < n) : mSr m h1 (va_cpy (m h0) (m h1) a.toNatClampNeg b.toNatClampNeg c.toNatClampNeg) h1 k = m h0 k := by
  rw [mSr_s, ha, hb, hc, pk_cpy_in (Nat.zero_le _) (by omega), show 0 + (k - 0) = k by omega]
theorem c_become {l : Launch} {X : XT} {d : Nat} {S S' : Nat} {m : Mem} {σ : Sg} (hd : 2 ≤ d) (hs : RepS m S' σ) (hσ : WF σ) (hSS : S + 16 < S' ∨ S' + 16 < S) : Meth l X d M_X7_become [vR 8 S, vR 8 S'] m (fun r m' => r = none ∧ RepS m' S σ ∧ ∀ a, (a < S ∨ S + 16 < a) → m' a = m a) := by
  obtain ⟨d, rfl⟩ : ∃ e, d = e + 1 := ⟨d - 1, by omega⟩
  have b1 := hσ.2.1
  have b2 := hσ.2.2.1
  have b3 := hσ.2.2.2.1
  refine E_X7_become (ls := [vR 8 S, vR 8 S', vU]) rfl rfl ?_
  repeat refine AW.u 10 rfl rfl ?_
  try dsimp only [List.set_cons_zero, List.set_cons_succ, Option.toList_some, Option.toList_none, List.cons_append, List.nil_append]
  refine AW.loop (pc := 10) (σ := Unit) 8 (fun i _ => [vR 8 S, vR 8 S', vI (nI i)]) (fun i _ m1 => (∀ a, (a < S ∨ S + 16 < a) → m1 a = m a) ∧ m1 S 0 = m S' 0 ∧ ∀ j k, j < i → k < 10 → m1 (S + 2 + j) k = m (S' + 2 + j) k) (fun i _ m1 hi hm1 ih => ?_) 0 () _ (Nat.zero_le _) ⟨fun a ha => mUp_a (by omega), mUp_s _ _ _ _, fun j k hj => absurd hj (by omega)⟩
  obtain ⟨hf, hv, hl⟩ := hm1
  repeat refine AW.s rfl ?_
  try dsimp only [List.set_cons_zero, List.set_cons_succ, Option.toList_some, Option.toList_none, List.cons_append, List.nil_append]
  refine AW.b rfl (fun hc => ?_) (fun hc => ?_)
  · have hlt : i < 8 := (nI_ltI (b := 8) (by omega) (by decide)).mp hc
    repeat refine AW.s rfl ?_
    try dsimp only [List.set_cons_zero, List.set_cons_succ, Option.toList_some, Option.toList_none, List.cons_append, List.nil_append]
    refine AW.c rfl (vp_in_nI (by omega) (by decide)) ?_
    try dsimp only [List.set_cons_zero, List.set_cons_succ, Option.toList_some, Option.toList_none, List.cons_append, List.nil_append]
    rw [nI_clamp (by omega)]
    repeat refine AW.s rfl ?_
    try dsimp only [List.set_cons_zero, List.set_cons_succ, Option.toList_some, Option.toList_none, List.cons_append, List.nil_append]
    refine AW.c rfl (vp_in_nI (by omega) (by decide)) ?_
    try dsimp only [List.set_cons_zero, List.set_cons_succ, Option.toList_some, Option.toList_none, List.cons_append, List.nil_append]
    rw [nI_clamp (by omega)]
    repeat refine AW.s rfl ?_
    try dsimp only [List.set_cons_zero, List.set_cons_succ, Option.toList_some, Option.toList_none, List.cons_append, List.nil_append]
    refine AW.cpy k_7_58 rfl rfl rfl rfl (by decide) (by decide) (by decide) (by decide) (by decide) ?_
    rw [show (0 : Int32).toNatClampNeg = 0 from rfl, show (10 : Int32).toNatClampNeg = 10 from rfl, show S + 1 + 1 + 1 * i = S + 2 + i by omega, show S' + 1 + 1 + 1 * i = S' + 2 + i by omega]
    repeat refine AW.u 10 rfl rfl ?_
    try dsimp only [List.set_cons_zero, List.set_cons_succ, Option.toList_some, Option.toList_none, List.cons_append, List.nil_append]
    rw [nI_1]
    refine ih () _ hlt ⟨fun a ha => by rw [mSr_n (by omega)]; exact hf a ha, by rw [mSr_n (by omega)]; exact hv, fun j k hj hk => ?_⟩
    by_cases e : j = i
    · subst e
      rw [mSr_s, pk_cpy_in (Nat.zero_le _) (by omega), show 0 + (k - 0) = k by omega, hf _ (by omega)]
    · rw [mSr_n (by omega)]
      exact hl j k (by omega) hk
  · have : i = 8 := by
      have : ¬ i < 8 := fun q => hc (nI_lt (b := 8) q (by decide))
      omega
    subst this
    repeat refine AW.s rfl ?_
    try dsimp only [List.set_cons_zero, List.set_cons_succ, Option.toList_some, Option.toList_none, List.cons_append, List.nil_append]
    refine AW.cpy k_7_58 rfl rfl rfl rfl (by decide) (by decide) (by decide) (by decide) (by decide) ?_
    have cA : ∀ k, k < 8 → _ = m1 (S' + 10) k := fun k hk => cpy_row (m := m1) (h0 := S' + 10) (h1 := S + 10) (n := 8) (a := 0) (b := 0) (c := 8) rfl rfl rfl hk
    have fA : ∀ a, a ≠ S + 10 → _ = m1 a := fun a e => mSr_n (m := m1) (f := va_cpy (m1 (S' + 10)) (m1 (S + 10)) (0 : Int32).toNatClampNeg (0 : Int32).toNatClampNeg (8 : Int32).toNatClampNeg) e
    generalize mSr m1 (S + 10) (va_cpy (m1 (S' + 10)) (m1 (S + 10)) (0 : Int32).toNatClampNeg (0 : Int32).toNatClampNeg (8 : Int32).toNatClampNeg) = mA at cA fA ⊢
    repeat refine AW.s rfl ?_
    try dsimp only [List.set_cons_zero, List.set_cons_succ, Option.toList_some, Option.toList_none, List.cons_append, List.nil_append]
    refine AW.cpy k_7_58 rfl rfl rfl rfl (by decide) (by decide) (by decide) (by decide) (by decide) ?_
    have cB : ∀ k, k < 8 → _ = mA (S' + 11) k := fun k hk => cpy_row (m := mA) (h0 := S' + 11) (h1 := S + 11) (n := 8) (a := 0) (b := 0) (c := 8) rfl rfl rfl hk
    have fB : ∀ a, a ≠ S + 11 → _ = mA a := fun a e => mSr_n (m := mA) (f := va_cpy (mA (S' + 11)) (mA (S + 11)) (0 : Int32).toNatClampNeg (0 : Int32).toNatClampNeg (8 : Int32).toNatClampNeg) e
    generalize mSr mA (S + 11) (va_cpy (mA (S' + 11)) (mA (S + 11)) (0 : Int32).toNatClampNeg (0 : Int32).toNatClampNeg (8 : Int32).toNatClampNeg) = mB at cB fB ⊢
    repeat refine AW.s rfl ?_
    try dsimp only [List.set_cons_zero, List.set_cons_succ, Option.toList_some, Option.toList_none, List.cons_append, List.nil_append]
    have cC : mUp mB S 4 (mB S' 4) S 4 = mB S' 4 := mUp_s _ _ _ _
    have eC : ∀ k, k ≠ 4 → mUp mB S 4 (mB S' 4) S k = mB S k := fun k e => mUp_n (Or.inr e)
    have fC : ∀ a, a ≠ S → mUp mB S 4 (mB S' 4) a = mB a := fun a e => mUp_a e
    generalize mUp mB S 4 (mB S' 4) = mC at cC eC fC ⊢
    refine AW.cpy k_7_58 rfl rfl rfl rfl (by decide) (by decide) (by decide) (by decide) (by decide) ?_
    have cD : ∀ k, k < 6 → _ = mC (S' + 12) k := fun k hk => cpy_row (m := mC) (h0 := S' + 12) (h1 := S + 12) (n := 6) (a := 0) (b := 0) (c := 6) rfl rfl rfl hk
    have fD : ∀ a, a ≠ S + 12 → _ = mC a := fun a e => mSr_n (m := mC) (f := va_cpy (mC (S' + 12)) (mC (S + 12)) (0 : Int32).toNatClampNeg (0 : Int32).toNatClampNeg (6 : Int32).toNatClampNeg) e
    generalize mSr mC (S + 12) (va_cpy (mC (S' + 12)) (mC (S + 12)) (0 : Int32).toNatClampNeg (0 : Int32).toNatClampNeg (6 : Int32).toNatClampNeg) = mD at cD fD ⊢
    repeat refine AW.s rfl ?_
    try dsimp only [List.set_cons_zero, List.set_cons_succ, Option.toList_some, Option.toList_none, List.cons_append, List.nil_append]
    refine AW.cpy k_7_58 rfl rfl rfl rfl (by decide) (by decide) (by decide) (by decide) (by decide) ?_
    have cE : ∀ k, k < 6 → _ = mD (S' + 13) k := fun k hk => cpy_row (m := mD) (h0 := S' + 13) (h1 := S + 13) (n := 6) (a := 0) (b := 0) (c := 6) rfl rfl rfl hk
    have fE : ∀ a, a ≠ S + 13 → _ = mD a := fun a e => mSr_n (m := mD) (f := va_cpy (mD (S' + 13)) (mD (S + 13)) (0 : Int32).toNatClampNeg (0 : Int32).toNatClampNeg (6 : Int32).toNatClampNeg) e
    generalize mSr mD (S + 13) (va_cpy (mD (S' + 13)) (mD (S + 13)) (0 : Int32).toNatClampNeg (0 : Int32).toNatClampNeg (6 : Int32).toNatClampNeg) = mE at cE fE ⊢
    repeat refine AW.s rfl ?_
    try dsimp only [List.set_cons_zero, List.set_cons_succ, Option.toList_some, Option.toList_none, List.cons_append, List.nil_append]
    refine AW.cpy k_7_58 rfl rfl rfl rfl (by decide) (by decide) (by decide) (by decide) (by decide) ?_
    have cF : ∀ k, k < 6 → _ = mE (S' + 14) k := fun k hk => cpy_row (m := mE) (h0 := S' + 14) (h1 := S + 14) (n := 6) (a := 0) (b := 0) (c := 6) rfl rfl rfl hk
    have fF : ∀ a, a ≠ S + 14 → _ = mE a := fun a e => mSr_n (m := mE) (f := va_cpy (mE (S' + 14)) (mE (S + 14)) (0 : Int32).toNatClampNeg (0 : Int32).toNatClampNeg (6 : Int32).toNatClampNeg) e
    generalize mSr mE (S + 14) (va_cpy (mE (S' + 14)) (mE (S + 14)) (0 : Int32).toNatClampNeg (0 : Int32).toNatClampNeg (6 : Int32).toNatClampNeg) = mF at cF fF ⊢
    repeat refine AW.s rfl ?_
    try dsimp only [List.set_cons_zero, List.set_cons_succ, Option.toList_some, Option.toList_none, List.cons_append, List.nil_append]
    have cG : mUp mF S 8 (mF S' 8) S 8 = mF S' 8 := mUp_s _ _ _ _
    have eG : ∀ k, k ≠ 8 → mUp mF S 8 (mF S' 8) S k = mF S k := fun k e => mUp_n (Or.inr e)
    have fG : ∀ a, a ≠ S → mUp mF S 8 (mF S' 8) a = mF a := fun a e => mUp_a e
    generalize mUp mF S 8 (mF S' 8) = mG at cG eG fG ⊢
    refine AW.V k_7_82 ((c_becomeR (h := S + 15) (ρ := S' + 15) (by omega) (by omega))) rfl rfl rfl rfl rfl rfl (fun r1 mH hq => ?_)
    obtain ⟨rfl, cH1, cH2, fH⟩ := hq
    repeat refine AW.s rfl ?_
    try dsimp only [List.set_cons_zero, List.set_cons_succ, Option.toList_some, Option.toList_none, List.cons_append, List.nil_append]
    have cI : mUp mH S 10 (mH S' 10) S 10 = mH S' 10 := mUp_s _ _ _ _
    have eI : ∀ k, k ≠ 10 → mUp mH S 10 (mH S' 10) S k = mH S k := fun k e => mUp_n (Or.inr e)
    have fI : ∀ a, a ≠ S → mUp mH S 10 (mH S' 10) a = mH a := fun a e => mUp_a e
    generalize mUp mH S 10 (mH S' 10) = mI at cI eI fI ⊢
    have far : ∀ a, (a < S ∨ S + 16 < a) → mI a = m a := fun a ha => by rw [fI a (by omega), fH a (by omega) (by omega), fG a (by omega), fF a (by omega), fE a (by omega), fD a (by omega), fC a (by omega), fB a (by omega), fA a (by omega), hf a ha]
    have fS : ∀ a, (a < S ∨ S + 16 < a) → m1 a = m a ∧ mA a = m a ∧ mB a = m a ∧ mC a = m a ∧ mD a = m a ∧ mE a = m a ∧ mF a = m a ∧ mG a = m a ∧ mH a = m a := fun a ha => by
      have q1 := hf a ha
      have q2 := fA a (by omega)
      have q3 := fB a (by omega)
      have q4 := fC a (by omega)
      have q5 := fD a (by omega)
      have q6 := fE a (by omega)
      have q7 := fF a (by omega)
      have q8 := fG a (by omega)
      have q9 := fH a (by omega) (by omega)
      rw [q9, q8, q7, q6, q5, q4, q3, q2, q1]
      exact ⟨rfl, rfl, rfl, rfl, rfl, rfl, rfl, rfl, rfl⟩
    obtain ⟨h1, h2, h3, h4, h5, h7, h8, h9⟩ := hs
    have w0 : mI S 0 = m S' 0 := by rw [eI 0 (by decide), fH S (by omega) (by omega), eG 0 (by decide), fF S (by omega), fE S (by omega), fD S (by omega), eC 0 (by decide), fB S (by omega), fA S (by omega), hv]
    have w4 : mI S 4 = m S' 4 := by rw [eI 4 (by decide), fH S (by omega) (by omega), eG 4 (by decide), fF S (by omega), fE S (by omega), fD S (by omega), cC, (fS S' (by omega)).2.2.1]
    have w8 : mI S 8 = m S' 8 := by rw [eI 8 (by decide), fH S (by omega) (by omega), cG, (fS S' (by omega)).2.2.2.2.2.2.1]
    have w10 : mI S 10 = m S' 10 := by rw [cI, (fS S' (by omega)).2.2.2.2.2.2.2.2]
    have v10 : ∀ k, k < 8 → mI (S + 10) k = m (S' + 10) k := fun k hk => by rw [fI _ (by omega), fH _ (by omega) (by omega), fG _ (by omega), fF _ (by omega), fE _ (by omega), fD _ (by omega), fC _ (by omega), fB _ (by omega), cA k hk, (fS (S' + 10) (by omega)).1]
    have v11 : ∀ k, k < 8 → mI (S + 11) k = m (S' + 11) k := fun k hk => by rw [fI _ (by omega), fH _ (by omega) (by omega), fG _ (by omega), fF _ (by omega), fE _ (by omega), fD _ (by omega), fC _ (by omega), cB k hk, (fS (S' + 11) (by omega)).2.1]
    have v12 : ∀ k, k < 6 → mI (S + 12) k = m (S' + 12) k := fun k hk => by rw [fI _ (by omega), fH _ (by omega) (by omega), fG _ (by omega), fF _ (by omega), fE _ (by omega), cD k hk, (fS (S' + 12) (by omega)).2.2.2.1]
    have v13 : ∀ k, k < 6 → mI (S + 13) k = m (S' + 13) k := fun k hk => by rw [fI _ (by omega), fH _ (by omega) (by omega), fG _ (by omega), fF _ (by omega), cE k hk, (fS (S' + 13) (by omega)).2.2.2.2.1]
    have v14 : ∀ k, k < 6 → mI (S + 14) k = m (S' + 14) k := fun k hk => by rw [fI _ (by omega), fH _ (by omega) (by omega), fG _ (by omega), cF k hk, (fS (S' + 14) (by omega)).2.2.2.2.2.1]
    have v15 : mI (S + 15) 1 = m (S' + 15) 1 := by rw [fI _ (by omega), cH1, (fS (S' + 15) (by omega)).2.2.2.2.2.2.2.1]
    have v16 : ∀ k, k < 8 → mI (S + 16) k = m (S' + 16) k := fun k hk => by rw [fI _ (by omega), show S + 16 = S + 15 + 1 from rfl, cH2 k hk, (fS (S' + 15 + 1) (by omega)).2.2.2.2.2.2.2.1]
    have vl : ∀ j k, j < 8 → k < 10 → mI (S + 2 + j) k = m (S' + 2 + j) k := fun j k hj hk => by rw [fI _ (by omega), fH _ (by omega) (by omega), fG _ (by omega), fF _ (by omega), fE _ (by omega), fD _ (by omega), fC _ (by omega), fB _ (by omega), fA _ (by omega), hl j k hj hk]
    refine AW.rv rfl rfl ⟨rfl, ⟨w0.trans h1, w4.trans h2, w8.trans h3, w10.trans h4, fun w hw => ?_, fun r hr => ?_, v15.trans h8, fun i hi => (v16 i (by omega)).trans (h9 i hi)⟩, far⟩
    · obtain ⟨y1, y2, y3⟩ := h5 w hw
      obtain ⟨z1, z2, -⟩ := hσ.2.2.2.2.2.1 w hw
      exact ⟨(v10 w (by omega)).trans y1, (v11 w (by omega)).trans y2, fun k hk => (vl w k (by omega) (by omega)).trans (y3 k hk)⟩
    · obtain ⟨y1, y2, y3⟩ := h7 r hr
      exact ⟨(v12 r (by omega)).trans y1, (v13 r (by omega)).trans y2, (v14 r (by omega)).trans y3⟩
