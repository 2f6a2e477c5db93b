-- ===== heard, found, alikeTexts, film, drawn, chance, image, back, count =====
theorem lk2 {x : Int32} {d p q : Int} (h1 : ¬ x = nI 0) (h2 : ¬ x = nI 1) : Op.lookupswitch.offset [(0, p), (1, q)] d x.toInt = d := look2 (i32_ne (n := 0) (by decide) h1) (i32_ne (n := 1) (by decide) h2)
/-- of a sheet that is there -/
def heardX (Ω : OM) (i : Nat) (b x : Int32) : Prop :=
  (b = 0 ∧ isBits x (fun w => w < (oG Ω) 0 1 ∧ telO (oI Ω i) (oZ Ω i) (saidS (oG Ω) (rowL (oG Ω)) w))) ∨ (b = 1 ∧ isBits x (fun r => r < (oG Ω) 0 2 ∧ 0 < wttN (oG Ω) (oI Ω i) (oZ Ω i) r)) ∨ (b = 2 ∧ x = nI (pttN (oG Ω) (oI Ω i) (oZ Ω i) ((oG Ω) 0 2)))
def heardR (Ω : OM) (a b x : Int32) : Prop :=
  (wB a 3 = 1 ∧ wB b 2 = 1 ∧ ((oS Ω a.toNatClampNeg = -1 ∧ x = -11) ∨ (¬ oS Ω a.toNatClampNeg = -1 ∧ heardX Ω a.toNatClampNeg b x))) ∨ (¬ (wB a 3 = 1 ∧ wB b 2 = 1) ∧ x = -2)
theorem telO_c {g g' : Nat → Int32} {n : Nat} {o : Option (List Nat)} (h : ∀ k, k < n → g k = g' k) : telO g n o ↔ telO g' n o := by
  have key : ∀ {g g' : Nat → Int32}, (∀ k, k < n → g k = g' k) → telO g n o → telO g' n o := by
    intro g g' h ⟨xs, e1, e2, e3⟩
    refine ⟨xs, e1, e2, fun k x hk => ?_⟩
    have := (List.getElem?_eq_some_iff.mp hk).1
    rw [← h k (by omega)]
    exact e3 k x hk
  exact ⟨key h, key (fun k hk => (h k hk).symm)⟩
theorem cntP_c {P Q : Nat → Prop} (i : Nat) (h : ∀ k, k < i → (P k ↔ Q k)) : cntP P i = cntP Q i := by
  induction i with
  | zero => rw [cntP, cntP]
  | succ i ih =>
    have e := ih (fun k hk => h k (by omega))
    by_cases q : P i
    · rw [cntP_yes q, cntP_yes ((h i (by omega)).mp q), e]
    · rw [cntP_no q, cntP_no (fun z => q ((h i (by omega)).mpr z)), e]
theorem wttN_c {σ : Sg} {g g' : Nat → Int32} {n : Nat} (h : ∀ k, k < n → g k = g' k) (r : Nat) : wttN σ g n r = wttN σ g' n r := by
  unfold wttN
  exact cntP_c _ (fun k _ => telO_c h)
theorem pttN_c {σ : Sg} {g g' : Nat → Int32} {n : Nat} (h : ∀ k, k < n → g k = g' k) (i : Nat) : pttN σ g n i = pttN σ g' n i := by
  induction i with
  | zero => rw [pttN, pttN]
  | succ i ih => rw [pttN_s, pttN_s, ih, wttN_c h]
theorem C_heard {l : Launch} {X : XT} {d : Nat} {a b : Int32} {m : Mem} {Ω : OM} (hd : 7 ≤ d) (hW : WO Ω) (hI : InvC m Ω) : Meth l X d M_X10_heard [vR 11 0, vI a, vI b] m (fun r m' => ∃ x, r = some (vI x) ∧ heardR Ω a b x ∧ FrC m m') := by
  obtain ⟨d, rfl⟩ : ∃ e, d = e + 1 := ⟨d - 1, by omega⟩
  refine E_X10_heard (ls := [vR 11 0, vI a, vI b, vU]) rfl rfl ?_
  repeat refine AW.s rfl ?_
  try dsimp only [List.set_cons_zero, List.set_cons_succ, Option.toList_some, Option.toList_none, List.cons_append, List.nil_append]
  refine AW.S k_10_109 ((c_isSheet (by omega))) rfl rfl rfl rfl (fun r1 m9 hq => ?_)
  obtain ⟨rfl, hm9⟩ := hq
  rw [hm9]
  try dsimp only [List.set_cons_zero, List.set_cons_succ, Option.toList_some, Option.toList_none, List.cons_append, List.nil_append]
  by_cases q1 : wB a 3 = 1
  · rw [q1]
    refine AW.b rfl (fun hc => ?_) (fun hc => ?_)
    · exact absurd hc (by decide)
    · repeat refine AW.s rfl ?_
      try dsimp only [List.set_cons_zero, List.set_cons_succ, Option.toList_some, Option.toList_none, List.cons_append, List.nil_append]
      refine AW.S k_10_113 (c_isWithin) rfl rfl rfl rfl (fun r1 m8 hq => ?_)
      obtain ⟨rfl, hm8⟩ := hq
      rw [hm8]
      try dsimp only [List.set_cons_zero, List.set_cons_succ, Option.toList_some, Option.toList_none, List.cons_append, List.nil_append]
      by_cases q2 : wB b 2 = 1
      · rw [q2]
        obtain ⟨i, hi, rfl⟩ := (wB_1 (n := 3) (by decide)).mp q1
        obtain ⟨s1, s2, s3⟩ := hI.2.2.2.2.2.2.2 i (by omega)
        have hz := (hW.2.2.2.2.2.2 i (by omega)).le
        have eh : 0 + 42 + 193 + 2 * i = 235 + 2 * i := by omega
        have rel : ∀ x, ¬ oS Ω i = -1 → heardX Ω i b x → heardR Ω (nI i) b x := fun x h1 h2 => Or.inl ⟨q1, q2, Or.inr (by rw [nI_clamp (by omega)]; exact ⟨h1, h2⟩)⟩
        refine AW.b rfl (fun hc => ?_) (fun hc => ?_)
        · exact absurd hc (by decide)
        · repeat refine AW.s rfl ?_
          try dsimp only [List.set_cons_zero, List.set_cons_succ, Option.toList_some, Option.toList_none, List.cons_append, List.nil_append]
          refine AW.c rfl (vp_in_nI (by omega) (by decide)) ?_
          try dsimp only [List.set_cons_zero, List.set_cons_succ, Option.toList_some, Option.toList_none, List.cons_append, List.nil_append]
          rw [nI_clamp (by omega), eh]
          repeat refine AW.s rfl ?_
          try dsimp only [List.set_cons_zero, List.set_cons_succ, Option.toList_some, Option.toList_none, List.cons_append, List.nil_append]
          refine AW.V k_10_117 (c_isMissing) rfl rfl rfl rfl rfl rfl (fun r1 m7 hq => ?_)
          obtain ⟨rfl, hm7⟩ := hq
          rw [hm7, s1]
          try dsimp only [List.set_cons_zero, List.set_cons_succ, Option.toList_some, Option.toList_none, List.cons_append, List.nil_append]
          by_cases q3 : oS Ω i = -1
          · rw [if_pos q3]
            refine AW.b rfl (fun hc => ?_) (fun hc => ?_)
            · exact absurd hc (by decide)
            · repeat refine AW.s rfl ?_
              try dsimp only [List.set_cons_zero, List.set_cons_succ, Option.toList_some, Option.toList_none, List.cons_append, List.nil_append]
              exact AW.ri rfl rfl rfl ⟨_, rfl, Or.inl ⟨q1, q2, Or.inl (by rw [nI_clamp (by omega)]; exact ⟨q3, rfl⟩)⟩, FrC.rf⟩
          · rw [if_neg q3]
            have rel := fun x => rel x q3
            refine AW.b rfl (fun hc => ?_) (fun hc => ?_)
            · repeat refine AW.s rfl ?_
              try dsimp only [List.set_cons_zero, List.set_cons_succ, Option.toList_some, Option.toList_none, List.cons_append, List.nil_append]
              by_cases b0 : b = nI 0
              · subst b0
                refine AW.look (tgt := 64) (off := 28) rfl (by decide) (by decide) (by decide) ?_
                repeat refine AW.s rfl ?_
                try dsimp only [List.set_cons_zero, List.set_cons_succ, Option.toList_some, Option.toList_none, List.cons_append, List.nil_append]
                refine AW.V k_10_247 ((c_wordsSaidAs (n := oZ Ω i) (by omega) hI.1 hW.1 (by omega) s2 hz)) rfl rfl rfl rfl rfl rfl (fun r1 m6 hq => ?_)
                obtain ⟨x, rfl, hx, fr⟩ := hq
                repeat refine AW.s rfl ?_
                try dsimp only [List.set_cons_zero, List.set_cons_succ, Option.toList_some, Option.toList_none, List.cons_append, List.nil_append]
                exact AW.ri rfl rfl rfl ⟨_, rfl, rel _ (Or.inl ⟨rfl, hx.to (fun w => and_congr Iff.rfl (telO_c s3))⟩), fr⟩
              · by_cases b1 : b = nI 1
                · subst b1
                  refine AW.look (tgt := 70) (off := 34) rfl (by decide) (by decide) (by decide) ?_
                  repeat refine AW.s rfl ?_
                  try dsimp only [List.set_cons_zero, List.set_cons_succ, Option.toList_some, Option.toList_none, List.cons_append, List.nil_append]
                  refine AW.V k_10_251 ((c_rulesTurningTo (n := oZ Ω i) (by omega) hI.1 hW.1 (by omega) s2 hz)) rfl rfl rfl rfl rfl rfl (fun r1 m6 hq => ?_)
                  obtain ⟨x, rfl, hx, fr⟩ := hq
                  repeat refine AW.s rfl ?_
                  try dsimp only [List.set_cons_zero, List.set_cons_succ, Option.toList_some, Option.toList_none, List.cons_append, List.nil_append]
                  exact AW.ri rfl rfl rfl ⟨_, rfl, rel _ (Or.inr (Or.inl ⟨rfl, hx.to (fun w => and_congr Iff.rfl (by rw [wttN_c s3]))⟩)), fr⟩
                · refine AW.look (tgt := 76) rfl (by decide) (lk2 b0 b1) (by decide) ?_
                  have b2 : b = 2 := by
                    obtain ⟨j, hj, rfl⟩ := (wB_1 (n := 2) (by decide)).mp q2
                    have : j ≠ 0 := fun q => b0 (by rw [q])
                    have : j ≠ 1 := fun q => b1 (by rw [q])
                    rw [show j = 2 by omega]; rfl
                  repeat refine AW.s rfl ?_
                  try dsimp only [List.set_cons_zero, List.set_cons_succ, Option.toList_some, Option.toList_none, List.cons_append, List.nil_append]
                  refine AW.V k_10_254 ((c_pairsTurningTo (n := oZ Ω i) (by omega) hI.1 hW.1 (by omega) s2 hz)) rfl rfl rfl rfl rfl rfl (fun r1 m6 hq => ?_)
                  obtain ⟨rfl, fr⟩ := hq
                  repeat refine AW.s rfl ?_
                  try dsimp only [List.set_cons_zero, List.set_cons_succ, Option.toList_some, Option.toList_none, List.cons_append, List.nil_append]
                  exact AW.ri rfl rfl rfl ⟨_, rfl, rel _ (Or.inr (Or.inr ⟨b2, by rw [pttN_c s3]⟩)), fr⟩
            · exact absurd rfl hc
      · rw [wB_0 q2]
        refine AW.b rfl (fun hc => ?_) (fun hc => ?_)
        · repeat refine AW.s rfl ?_
          try dsimp only [List.set_cons_zero, List.set_cons_succ, Option.toList_some, Option.toList_none, List.cons_append, List.nil_append]
          exact AW.ri rfl rfl rfl ⟨_, rfl, Or.inr ⟨fun q => q2 q.2, rfl⟩, FrC.rf⟩
        · exact absurd rfl hc
  · rw [wB_0 q1]
    refine AW.b rfl (fun hc => ?_) (fun hc => ?_)
    · repeat refine AW.s rfl ?_
      try dsimp only [List.set_cons_zero, List.set_cons_succ, Option.toList_some, Option.toList_none, List.cons_append, List.nil_append]
      exact AW.ri rfl rfl rfl ⟨_, rfl, Or.inr ⟨fun q => q1 q.1, rfl⟩, FrC.rf⟩
    · exact absurd rfl hc
def foundR (Ω : OM) (a b c e x : Int32) : Prop :=
  (∃ i w r p, i ≤ 3 ∧ a = nI i ∧ w < (oG Ω) 0 1 ∧ b = nI w ∧ r < (oG Ω) 0 2 ∧ c = nI r ∧ p ≤ 2 ∧ e = nI p ∧ ((oS Ω i = -1 ∧ x = -11) ∨ (¬ oS Ω i = -1 ∧ isBits x (fun v => v < (if p = 2 then 6 else 26) ∧ telO (oI Ω i) (oZ Ω i) (saidS (sU (oG Ω) (if p = 0 then 4 else if p = 1 then 5 else 3) r v) (rowL (oG Ω)) w))))) ∨ ((¬ ∃ i w r p, i ≤ 3 ∧ a = nI i ∧ w < (oG Ω) 0 1 ∧ b = nI w ∧ r < (oG Ω) 0 2 ∧ c = nI r ∧ p ≤ 2 ∧ e = nI p) ∧ x = -2)
theorem C_found {l : Launch} {X : XT} {d : Nat} {a b c e : Int32} {m : Mem} {Ω : OM} (hd : 7 ≤ d) (hW : WO Ω) (hI : InvC m Ω) : Meth l X d M_X10_found [vR 11 0, vI a, vI b, vI c, vI e] m (fun r m' => ∃ x, r = some (vI x) ∧ foundR Ω a b c e x ∧ FrC m m') := by
  obtain ⟨d, rfl⟩ : ∃ e, d = e + 1 := ⟨d - 1, by omega⟩
  have h1 := hW.1.2.1
  have h2 := hW.1.2.2.1
  have hbad : (¬ ∃ i w r p, i ≤ 3 ∧ a = nI i ∧ w < (oG Ω) 0 1 ∧ b = nI w ∧ r < (oG Ω) 0 2 ∧ c = nI r ∧ p ≤ 2 ∧ e = nI p) → AW (GM l X (d + 1) M_X10_found (fun r m' => ∃ x, r = some (vI x) ∧ foundR Ω a b c e x ∧ FrC m m')) 38 [vR 11 0, vI a, vI b, vI c, vI e, vU] [] m := by
    intro hn
    repeat refine AW.s rfl ?_
    try dsimp only [List.set_cons_zero, List.set_cons_succ, Option.toList_some, Option.toList_none, List.cons_append, List.nil_append]
    exact AW.ri rfl rfl rfl ⟨_, rfl, Or.inr ⟨hn, rfl⟩, FrC.rf⟩
  refine E_X10_found (ls := [vR 11 0, vI a, vI b, vI c, vI e, vU]) rfl rfl ?_
  repeat refine AW.s rfl ?_
  try dsimp only [List.set_cons_zero, List.set_cons_succ, Option.toList_some, Option.toList_none, List.cons_append, List.nil_append]
  refine AW.S k_10_109 ((c_isSheet (by omega))) rfl rfl rfl rfl (fun r1 m9 hq => ?_)
  obtain ⟨rfl, hm9⟩ := hq
  rw [hm9]
  try dsimp only [List.set_cons_zero, List.set_cons_succ, Option.toList_some, Option.toList_none, List.cons_append, List.nil_append]
  by_cases q1 : wB a 3 = 1
  · rw [q1]
    refine AW.b rfl (fun hc => ?_) (fun hc => ?_)
    · exact absurd hc (by decide)
    · repeat refine AW.s rfl ?_
      try dsimp only [List.set_cons_zero, List.set_cons_succ, Option.toList_some, Option.toList_none, List.cons_append, List.nil_append]
      refine AW.V k_10_166 ((c_hasWord hI.1)) rfl rfl rfl rfl rfl rfl (fun r1 m8 hq => ?_)
      obtain ⟨rfl, hm8⟩ := hq
      rw [hm8]
      try dsimp only [List.set_cons_zero, List.set_cons_succ, Option.toList_some, Option.toList_none, List.cons_append, List.nil_append]
      by_cases q2 : hB b ((oG Ω) 0 1) = 1
      · rw [q2]
        refine AW.b rfl (fun hc => ?_) (fun hc => ?_)
        · exact absurd hc (by decide)
        · repeat refine AW.s rfl ?_
          try dsimp only [List.set_cons_zero, List.set_cons_succ, Option.toList_some, Option.toList_none, List.cons_append, List.nil_append]
          refine AW.V k_10_142 ((c_hasRule hI.1)) rfl rfl rfl rfl rfl rfl (fun r1 m7 hq => ?_)
          obtain ⟨rfl, hm7⟩ := hq
          rw [hm7]
          try dsimp only [List.set_cons_zero, List.set_cons_succ, Option.toList_some, Option.toList_none, List.cons_append, List.nil_append]
          by_cases q3 : hB c ((oG Ω) 0 2) = 1
          · rw [q3]
            refine AW.b rfl (fun hc => ?_) (fun hc => ?_)
            · exact absurd hc (by decide)
            · repeat refine AW.s rfl ?_
              try dsimp only [List.set_cons_zero, List.set_cons_succ, Option.toList_some, Option.toList_none, List.cons_append, List.nil_append]
              refine AW.S k_10_113 (c_isWithin) rfl rfl rfl rfl (fun r1 m6 hq => ?_)
              obtain ⟨rfl, hm6⟩ := hq
              rw [hm6]
              try dsimp only [List.set_cons_zero, List.set_cons_succ, Option.toList_some, Option.toList_none, List.cons_append, List.nil_append]
              by_cases q4 : wB e 2 = 1
              · rw [q4]
                obtain ⟨i, hi, rfl⟩ := (wB_1 (n := 3) (by decide)).mp q1
                obtain ⟨w, hw, rfl⟩ := (hB_1 (by omega)).mp q2
                obtain ⟨r, hr, rfl⟩ := (hB_1 (by omega)).mp q3
                obtain ⟨p, hp, rfl⟩ := (wB_1 (n := 2) (by decide)).mp q4
                obtain ⟨s1, s2, s3⟩ := hI.2.2.2.2.2.2.2 i (by omega)
                have hz := (hW.2.2.2.2.2.2 i (by omega)).le
                have eh : 0 + 42 + 193 + 2 * i = 235 + 2 * i := by omega
                refine AW.b rfl (fun hc => ?_) (fun hc => ?_)
                · exact absurd hc (by decide)
                · repeat refine AW.s rfl ?_
                  try dsimp only [List.set_cons_zero, List.set_cons_succ, Option.toList_some, Option.toList_none, List.cons_append, List.nil_append]
                  refine AW.c rfl (vp_in_nI (by omega) (by decide)) ?_
                  try dsimp only [List.set_cons_zero, List.set_cons_succ, Option.toList_some, Option.toList_none, List.cons_append, List.nil_append]
                  rw [nI_clamp (by omega), eh]
                  repeat refine AW.s rfl ?_
                  try dsimp only [List.set_cons_zero, List.set_cons_succ, Option.toList_some, Option.toList_none, List.cons_append, List.nil_append]
                  refine AW.V k_10_117 (c_isMissing) rfl rfl rfl rfl rfl rfl (fun r1 m5 hq => ?_)
                  obtain ⟨rfl, hm5⟩ := hq
                  rw [hm5, s1]
                  try dsimp only [List.set_cons_zero, List.set_cons_succ, Option.toList_some, Option.toList_none, List.cons_append, List.nil_append]
                  by_cases q5 : oS Ω i = -1
                  · rw [if_pos q5]
                    refine AW.b rfl (fun hc => ?_) (fun hc => ?_)
                    · exact absurd hc (by decide)
                    · repeat refine AW.s rfl ?_
                      try dsimp only [List.set_cons_zero, List.set_cons_succ, Option.toList_some, Option.toList_none, List.cons_append, List.nil_append]
                      exact AW.ri rfl rfl rfl ⟨_, rfl, Or.inl ⟨i, w, r, p, hi, rfl, hw, rfl, hr, rfl, hp, rfl, Or.inl ⟨q5, rfl⟩⟩, FrC.rf⟩
                  · rw [if_neg q5]
                    refine AW.b rfl (fun hc => ?_) (fun hc => ?_)
                    · repeat refine AW.s rfl ?_
                      try dsimp only [List.set_cons_zero, List.set_cons_succ, Option.toList_some, Option.toList_none, List.cons_append, List.nil_append]
                      rcases (show p = 0 ∨ p = 1 ∨ p = 2 by omega) with ep | ep | ep <;> subst ep
                      · refine AW.look (tgt := 88) (off := 26) rfl (by decide) (by decide) (by decide) ?_
                        repeat refine AW.s rfl ?_
                        try dsimp only [List.set_cons_zero, List.set_cons_succ, Option.toList_some, Option.toList_none, List.cons_append, List.nil_append]
                        refine AW.V k_10_257 ((c_fitting (t := 4) (n := 26) (z := oZ Ω i) (by omega) hI.1 hW.1 hw (by decide) (by decide) hr (by decide) (fun z => absurd z (by decide)) (by omega) s2 hz)) rfl rfl rfl rfl rfl rfl (fun r1 m4 hq => ?_)
                        obtain ⟨x, rfl, hx, fr⟩ := hq
                        repeat refine AW.s rfl ?_
                        try dsimp only [List.set_cons_zero, List.set_cons_succ, Option.toList_some, Option.toList_none, List.cons_append, List.nil_append]
                        exact AW.ri rfl rfl rfl ⟨_, rfl, Or.inl ⟨i, w, r, 0, hi, rfl, hw, rfl, hr, rfl, hp, rfl, Or.inr ⟨q5, hx.to (fun v => and_congr Iff.rfl (telO_c s3))⟩⟩, fun a ha => fr a (by omega) (by omega)⟩
                      · refine AW.look (tgt := 106) (off := 44) rfl (by decide) (by decide) (by decide) ?_
                        repeat refine AW.s rfl ?_
                        try dsimp only [List.set_cons_zero, List.set_cons_succ, Option.toList_some, Option.toList_none, List.cons_append, List.nil_append]
                        refine AW.V k_10_257 ((c_fitting (t := 5) (n := 26) (z := oZ Ω i) (by omega) hI.1 hW.1 hw (by decide) (by decide) hr (by decide) (fun z => absurd z (by decide)) (by omega) s2 hz)) rfl rfl rfl rfl rfl rfl (fun r1 m4 hq => ?_)
                        obtain ⟨x, rfl, hx, fr⟩ := hq
                        repeat refine AW.s rfl ?_
                        try dsimp only [List.set_cons_zero, List.set_cons_succ, Option.toList_some, Option.toList_none, List.cons_append, List.nil_append]
                        exact AW.ri rfl rfl rfl ⟨_, rfl, Or.inl ⟨i, w, r, 1, hi, rfl, hw, rfl, hr, rfl, hp, rfl, Or.inr ⟨q5, hx.to (fun v => and_congr Iff.rfl (telO_c s3))⟩⟩, fun a ha => fr a (by omega) (by omega)⟩
                      · refine AW.look (tgt := 124) (off := 62) rfl (by decide) (by decide) (by decide) ?_
                        repeat refine AW.s rfl ?_
                        try dsimp only [List.set_cons_zero, List.set_cons_succ, Option.toList_some, Option.toList_none, List.cons_append, List.nil_append]
                        refine AW.V k_10_257 ((c_fitting (t := 3) (n := 6) (z := oZ Ω i) (by omega) hI.1 hW.1 hw (by decide) (by decide) hr (by decide) (fun z => by decide) (by omega) s2 hz)) rfl rfl rfl rfl rfl rfl (fun r1 m4 hq => ?_)
                        obtain ⟨x, rfl, hx, fr⟩ := hq
                        repeat refine AW.s rfl ?_
                        try dsimp only [List.set_cons_zero, List.set_cons_succ, Option.toList_some, Option.toList_none, List.cons_append, List.nil_append]
                        exact AW.ri rfl rfl rfl ⟨_, rfl, Or.inl ⟨i, w, r, 2, hi, rfl, hw, rfl, hr, rfl, hp, rfl, Or.inr ⟨q5, hx.to (fun v => and_congr Iff.rfl (telO_c s3))⟩⟩, fun a ha => fr a (by omega) (by omega)⟩
                    · exact absurd rfl hc
              · rw [wB_0 q4]
                refine AW.b rfl (fun hc => ?_) (fun hc => ?_)
                · exact hbad (fun ⟨i, w, r, p, _, _, _, _, _, _, hp, ep⟩ => q4 ((wB_1 (n := 2) (by decide)).mpr ⟨p, hp, ep⟩))
                · exact absurd rfl hc
          · rw [hB_0 q3]
            refine AW.b rfl (fun hc => ?_) (fun hc => ?_)
            · exact hbad (fun ⟨i, w, r, p, _, _, _, _, hr, er, _, _⟩ => q3 ((hB_1 (by omega)).mpr ⟨r, hr, er⟩))
            · exact absurd rfl hc
      · rw [hB_0 q2]
        refine AW.b rfl (fun hc => ?_) (fun hc => ?_)
        · exact hbad (fun ⟨i, w, r, p, _, _, hw, ew, _, _, _, _⟩ => q2 ((hB_1 (by omega)).mpr ⟨w, hw, ew⟩))
        · exact absurd rfl hc
  · rw [wB_0 q1]
    refine AW.b rfl (fun hc => ?_) (fun hc => ?_)
    · exact hbad (fun ⟨i, w, r, p, hi, ei, _, _, _, _, _, _⟩ => q1 ((wB_1 (n := 3) (by decide)).mpr ⟨i, hi, ei⟩))
    · exact absurd rfl hc
def alTR (Ω : OM) (x : Int32) : Prop := isBits x (fun t => t < oQ Ω ∧ wthO Ω t (rowL (oG Ω)) = wthO Ω ((oG Ω) 0 4) (rowL (oG Ω)))
theorem C_alikeTexts {l : Launch} {X : XT} {d : Nat} {m : Mem} {Ω : OM} (hd : 7 ≤ d) (hW : WO Ω) (hI : InvC m Ω) : Meth l X d M_X10_alikeTexts [vR 11 0] m (fun r m' => ∃ x, r = some (vI x) ∧ alTR Ω x ∧ FrC m m') := by
  obtain ⟨d, rfl⟩ : ∃ e, d = e + 1 := ⟨d - 1, by omega⟩
  have h1 := hW.1.2.1
  have hQ6 := hW.2.2.2.1
  have hl6 : (oG Ω) 0 4 < 6 := hW.1.2.2.2.2.1
  refine E_X10_alikeTexts (ls := [vR 11 0, vU, vU, vU]) rfl rfl ?_
  repeat refine AW.s rfl ?_
  try dsimp only [List.set_cons_zero, List.set_cons_succ, Option.toList_some, Option.toList_none, List.cons_append, List.nil_append]
  refine AW.V k_10_210 ((c_sayAll (H := 43) (ρ := 16) (by omega) hI.1 hW.1 (rowL_wf hW.1) hI.1.row (by decide) (by omega))) rfl rfl rfl rfl rfl rfl (fun r1 m1 hq => ?_)
  obtain ⟨rfl, hY, f0⟩ := hq
  have f1 : FrC m m1 := fun a ha => f0 a (by omega)
  have hI1 := hI.fr hW f1
  have hfw : ∀ w, w < (oG Ω) 0 1 → WFo (saidS (oG Ω) (rowL (oG Ω)) w) := fun w hw => saidS_wf hW.1 (rowL_wf hW.1) hw
  have hw1 : ∀ (t : Nat) (mm : Mem), t < oQ Ω → InvC mm Ω → RepYs mm 43 ((oG Ω) 0 1) (saidS (oG Ω) (rowL (oG Ω))) → Meth l X d M_X0_worth [vR 1 65, vR 8 1, vR 4 16, vR 10 (199 + 6 * t), vR 6 43] mm (fun r1 m' => r1 = some (vI (wthO Ω t (rowL (oG Ω)))) ∧ ∀ a, a ≠ 65 + 1 → a ≠ 199 + 6 * t + 4 → m' a = mm a) := by
    intro t mm ht hIm hYm
    obtain ⟨en, t1, t2⟩ := hIm.2.2.2.2.1 t ht
    refine (c_worth (J := 65) (ρ := 16) (H := 43) (n := (oG Ω) 0 1) (en := en) (by omega) hIm.1 hW.1 (rowL_wf hW.1) hIm.1.row t1 (Nat.le_refl _) hYm hfw (by decide) (by decide) (by omega) (by omega) (by omega) (by omega) (by omega)).post (fun r m' hq => ⟨?_, hq.2⟩)
    rw [hq.1]
    unfold wthO
    rw [worthW_ext t2]
  repeat refine AW.s rfl ?_
  try dsimp only [List.set_cons_zero, List.set_cons_succ, Option.toList_some, Option.toList_none, List.cons_append, List.nil_append]
  refine AW.V k_10_231 ((c_law hI1.1 hW.1)) rfl rfl rfl rfl rfl rfl (fun r1 m2 hq => ?_)
  obtain ⟨rfl, hm2⟩ := hq
  rw [hm2]
  repeat refine AW.s rfl ?_
  try dsimp only [List.set_cons_zero, List.set_cons_succ, Option.toList_some, Option.toList_none, List.cons_append, List.nil_append]
  refine AW.V k_10_264 ((hw1 _ m1 hW.2.2.1 hI1 hY)) rfl rfl rfl rfl rfl rfl (fun r1 m3 hq => ?_)
  obtain ⟨rfl, f3⟩ := hq
  have hYf : ∀ mm : Mem, (∀ a, 43 ≤ a → a ≤ 60 → mm a = m1 a) → RepYs mm 43 ((oG Ω) 0 1) (saidS (oG Ω) (rowL (oG Ω))) := fun mm hh => hY.fr h1 (fun a g1 g2 => hh a (by omega) (by omega))
  repeat refine AW.u 49 rfl rfl ?_
  try dsimp only [List.set_cons_zero, List.set_cons_succ, Option.toList_some, Option.toList_none, List.cons_append, List.nil_append]
  refine AW.loop (pc := 49) (σ := Int32) (oQ Ω) (fun i x => [vR 11 0, vI (wthO Ω ((oG Ω) 0 4) (rowL (oG Ω))), vI x, vI (nI i)]) (fun i x mm => FrC m mm ∧ (∀ a, 43 ≤ a → a ≤ 60 → mm a = m1 a) ∧ isBits x (fun t => t < i ∧ wthO Ω t (rowL (oG Ω)) = wthO Ω ((oG Ω) 0 4) (rowL (oG Ω)))) (fun i x mm hi hmm ih => ?_) 0 0 m3 (Nat.zero_le _) ⟨f1.tr (fun a ha => f3 a (by omega) (by omega)), fun a g1 g2 => f3 a (by omega) (by omega), isBits.zero.to (fun b => ⟨fun q => absurd q id, fun q => absurd q.1 (by omega)⟩)⟩
  obtain ⟨g1, g2, g3⟩ := hmm
  have hIm := hI.fr hW g1
  repeat refine AW.s rfl ?_
  try dsimp only [List.set_cons_zero, List.set_cons_succ, Option.toList_some, Option.toList_none, List.cons_append, List.nil_append]
  rw [show mm 0 4 = nI (oQ Ω) from hIm.2.2.2.1]
  refine AW.b rfl (fun hc => ?_) (fun hc => ?_)
  · have hlt : i < oQ Ω := (nI_ltI (by omega) (by omega)).mp hc
    repeat refine AW.s rfl ?_
    try dsimp only [List.set_cons_zero, List.set_cons_succ, Option.toList_some, Option.toList_none, List.cons_append, List.nil_append]
    refine AW.c rfl (vp_in_nI (by omega) (by decide)) ?_
    try dsimp only [List.set_cons_zero, List.set_cons_succ, Option.toList_some, Option.toList_none, List.cons_append, List.nil_append]
    rw [nI_clamp (by omega), show 0 + 35 + 164 + 6 * i = 199 + 6 * i by omega]
    repeat refine AW.s rfl ?_
    try dsimp only [List.set_cons_zero, List.set_cons_succ, Option.toList_some, Option.toList_none, List.cons_append, List.nil_append]
    refine AW.V k_10_264 ((hw1 i mm hlt hIm (hYf mm g2))) rfl rfl rfl rfl rfl rfl (fun r1 m5 hq => ?_)
    obtain ⟨rfl, f5⟩ := hq
    have g1' : FrC m m5 := g1.tr (fun a ha => f5 a (by omega) (by omega))
    have g2' : ∀ a, 43 ≤ a → a ≤ 60 → m5 a = m1 a := fun a z1 z2 => by rw [f5 a (by omega) (by omega)]; exact g2 a z1 z2
    repeat refine AW.s rfl ?_
    try dsimp only [List.set_cons_zero, List.set_cons_succ, Option.toList_some, Option.toList_none, List.cons_append, List.nil_append]
    refine AW.b rfl (fun hc => ?_) (fun hc => ?_)
    · have e := hc
      repeat refine AW.u 49 rfl rfl ?_
      try dsimp only [List.set_cons_zero, List.set_cons_succ, Option.toList_some, Option.toList_none, List.cons_append, List.nil_append]
      rw [nI_1]
      refine ih _ _ hlt ⟨g1', g2', (g3.or (k := i) (by omega)).to (fun r => ⟨fun q => ?_, fun q => ?_⟩)⟩
      · rcases q with q | rfl
        · exact ⟨by omega, q.2⟩
        · exact ⟨by omega, e⟩
      · by_cases e2 : r = i
        · exact Or.inr e2
        · exact Or.inl ⟨by omega, q.2⟩
    · have e := hc
      repeat refine AW.u 49 rfl rfl ?_
      try dsimp only [List.set_cons_zero, List.set_cons_succ, Option.toList_some, Option.toList_none, List.cons_append, List.nil_append]
      rw [nI_1]
      refine ih _ _ hlt ⟨g1', g2', g3.to (fun r => ⟨fun q => ⟨by omega, q.2⟩, fun q => ?_⟩)⟩
      by_cases e2 : r = i
      · subst e2; exact absurd q.2 e
      · exact ⟨by omega, q.2⟩
  · have : i = oQ Ω := by
      have : ¬ i < oQ Ω := fun q => hc ((nI_ltI (by omega) (by omega)).mpr q)
      omega
    subst this
    repeat refine AW.s rfl ?_
    try dsimp only [List.set_cons_zero, List.set_cons_succ, Option.toList_some, Option.toList_none, List.cons_append, List.nil_append]
    exact AW.ri rfl rfl rfl ⟨_, rfl, g3, g1⟩
/-- a saying as items of a sheet -/
def sayI (xs : List Nat) (k : Nat) : Int32 := match xs[k]? with
  | some x => nI x
  | none => 0
noncomputable def filmF (Ω : OM) (a b : Int32) : Int32 × OM :=
  cif (wB a 3 = 1 ∧ hB b ((oG Ω) 0 1) = 1) (match saidS (oG Ω) (rowL (oG Ω)) b.toNatClampNeg with
    | none => (-3, Ω)
    | some xs => (nI xs.length, uS Ω a.toNatClampNeg 0 xs.length (sayI xs))) (-2, Ω)
/-- only one sheet's cells change -/
theorem InvC.s {m m' : Mem} {Ω : OM} {i : Nat} {s : Int32} {n : Nat} {f : Nat → Int32} (h : InvC m Ω) (hW : WO Ω) (hi : i < 4) (h1 : m' (235 + 2 * i) 1 = s) (h2 : m' (235 + 2 * i) 2 = nI n) (h3 : ∀ k, k < n → m' (235 + 2 * i + 1) k = f k) (hf : FrC m (fun a => if a = 235 + 2 * i ∨ a = 235 + 2 * i + 1 then m a else m' a)) : InvC m' (uS Ω i s n f) := by
  obtain ⟨w1, w2, w3, w4, -⟩ := hW
  have hg : ∀ a, a ≠ 235 + 2 * i → a ≠ 235 + 2 * i + 1 → (a < 43 ∨ 235 ≤ a ∨ (199 ≤ a ∧ a < 235 ∧ (a - 199) % 6 ≠ 4)) → m' a = m a := fun a e1 e2 ha => by
    have := hf a ha
    simp only [e1, e2, or_self, if_false] at this
    exact this
  obtain ⟨i1, i2, i3, i4, i5, i6, i7, i8⟩ := h
  refine ⟨i1.fr w1.2.1 (fun a g1 g2 => hg a (by omega) (by omega) (by omega)), by rw [hg 0 (by omega) (by omega) (by omega)]; exact i2, fun k => (i3 k).fr (w2 k).1.2.1 (fun a g1 g2 => hg a (by omega) (by omega) (by omega)), by rw [hg 0 (by omega) (by omega) (by omega)]; exact i4, fun t ht => ?_, by rw [hg 36 (by omega) (by omega) (by omega)]; exact i6, fun k hk => by rw [hg 37 (by omega) (by omega) (by omega)]; exact i7 k hk, fun j hj => ?_⟩
  · have ht : t < oQ Ω := ht
    obtain ⟨en, g1, g2⟩ := i5 t ht
    refine ⟨en, g1.fr (hg _ (by omega) (by omega) (by omega)) (hg _ (by omega) (by omega) (by omega)) (hg _ (by omega) (by omega) (by omega)) (hg _ (by omega) (by omega) (by omega)), fun p hp F => ?_⟩
    have hz : tellV m' (199 + 6 * t) en p F = tellV m (199 + 6 * t) en p F := by
      unfold tellV
      rw [tval_eq g1 hp (hg _ (by omega) (by omega) (by omega)) (hg _ (by omega) (by omega) (by omega)) (hg _ (by omega) (by omega) (by omega)) (fun _ _ => rfl)]
    rw [hz]
    exact g2 p hp F
  · unfold oS oZ oI uS
    by_cases e : j = i
    · subst e
      simp only [if_true]
      exact ⟨h1, h2, h3⟩
    · simp only [e, if_false]
      rw [hg (235 + 2 * j) (by omega) (by omega) (by omega), hg (235 + 2 * j + 1) (by omega) (by omega) (by omega)]
      exact i8 j hj
theorem C_film {l : Launch} {X : XT} {d : Nat} {a b : Int32} {m : Mem} {Ω : OM} (hd : 7 ≤ d) (hW : WO Ω) (hI : InvC m Ω) : Meth l X d M_X10_film [vR 11 0, vI a, vI b] m (fun r m' => r = some (vI (filmF Ω a b).1) ∧ InvC m' (filmF Ω a b).2 ∧ KC m m') := by
  obtain ⟨d, rfl⟩ : ∃ e, d = e + 1 := ⟨d - 1, by omega⟩
  have h1 := hW.1.2.1
  refine E_X10_film (ls := [vR 11 0, vI a, vI b]) rfl rfl ?_
  repeat refine AW.s rfl ?_
  try dsimp only [List.set_cons_zero, List.set_cons_succ, Option.toList_some, Option.toList_none, List.cons_append, List.nil_append]
  refine AW.S k_10_109 ((c_isSheet (by omega))) rfl rfl rfl rfl (fun r1 m9 hq => ?_)
  obtain ⟨rfl, hm9⟩ := hq
  rw [hm9]
  try dsimp only [List.set_cons_zero, List.set_cons_succ, Option.toList_some, Option.toList_none, List.cons_append, List.nil_append]
  by_cases q1 : wB a 3 = 1
  · rw [q1]
    refine AW.b rfl (fun hc => ?_) (fun hc => ?_)
    · exact absurd hc (by decide)
    · repeat refine AW.s rfl ?_
      try dsimp only [List.set_cons_zero, List.set_cons_succ, Option.toList_some, Option.toList_none, List.cons_append, List.nil_append]
      refine AW.V k_10_166 ((c_hasWord hI.1)) rfl rfl rfl rfl rfl rfl (fun r1 m8 hq => ?_)
      obtain ⟨rfl, hm8⟩ := hq
      rw [hm8]
      try dsimp only [List.set_cons_zero, List.set_cons_succ, Option.toList_some, Option.toList_none, List.cons_append, List.nil_append]
      by_cases q2 : hB b ((oG Ω) 0 1) = 1
      · rw [q2]
        obtain ⟨i, hi, rfl⟩ := (wB_1 (n := 3) (by decide)).mp q1
        obtain ⟨w, hw, rfl⟩ := (hB_1 (by omega)).mp q2
        have e0 : filmF Ω (nI i) (nI w) = (match saidS (oG Ω) (rowL (oG Ω)) w with
          | none => (-3, Ω)
          | some xs => (nI xs.length, uS Ω i 0 xs.length (sayI xs))) := by
          unfold filmF
          rw [cif_t ⟨q1, q2⟩, nI_clamp (by omega), nI_clamp (by omega)]
        rw [e0]
        have hwo := saidS_wf hW.1 (rowL_wf hW.1) hw
        refine AW.b rfl (fun hc => ?_) (fun hc => ?_)
        · exact absurd hc (by decide)
        · repeat refine AW.s rfl ?_
          try dsimp only [List.set_cons_zero, List.set_cons_succ, Option.toList_some, Option.toList_none, List.cons_append, List.nil_append]
          refine AW.V k_10_185 ((c_say (h := 61) (ρ := 16) (by omega) hI.1 hW.1 (rowL_wf hW.1) hI.1.row hw (by decide) (by decide))) rfl rfl rfl rfl rfl rfl (fun r1 m7 hq => ?_)
          obtain ⟨rfl, p1, p2⟩ := hq
          have f1 : FrC m m7 := fun q hq => p2 q (by omega) (by omega)
          repeat refine AW.s rfl ?_
          try dsimp only [List.set_cons_zero, List.set_cons_succ, Option.toList_some, Option.toList_none, List.cons_append, List.nil_append]
          refine AW.V k_10_268 (c_isTooLong) rfl rfl rfl rfl rfl rfl (fun r1 m6 hq => ?_)
          obtain ⟨rfl, hm6⟩ := hq
          rw [hm6]
          try dsimp only [List.set_cons_zero, List.set_cons_succ, Option.toList_some, Option.toList_none, List.cons_append, List.nil_append]
          cases hoo : saidS (oG Ω) (rowL (oG Ω)) w with
          | none =>
            rw [hoo] at p1
            rw [if_pos (show m7 61 1 = -1 from p1)]
            refine AW.b rfl (fun hc => ?_) (fun hc => ?_)
            · exact absurd hc (by decide)
            · repeat refine AW.s rfl ?_
              try dsimp only [List.set_cons_zero, List.set_cons_succ, Option.toList_some, Option.toList_none, List.cons_append, List.nil_append]
              exact AW.ri rfl rfl rfl ⟨rfl, hI.fr hW f1, f1.K⟩
          | some xs =>
            rw [hoo] at p1 hwo
            obtain ⟨a1, a2, a3⟩ := hwo xs rfl
            rw [if_neg (show ¬ m7 61 1 = -1 by rw [p1.1]; exact nI_m1 (by omega))]
            refine AW.b rfl (fun hc => ?_) (fun hc => ?_)
            · repeat refine AW.s rfl ?_
              try dsimp only [List.set_cons_zero, List.set_cons_succ, Option.toList_some, Option.toList_none, List.cons_append, List.nil_append]
              refine AW.c rfl (vp_in_nI (by omega) (by decide)) ?_
              try dsimp only [List.set_cons_zero, List.set_cons_succ, Option.toList_some, Option.toList_none, List.cons_append, List.nil_append]
              rw [nI_clamp (by omega), show 0 + 42 + 193 + 2 * i = 235 + 2 * i by omega]
              repeat refine AW.s rfl ?_
              try dsimp only [List.set_cons_zero, List.set_cons_succ, Option.toList_some, Option.toList_none, List.cons_append, List.nil_append]
              refine AW.V k_10_271 ((c_becomeSaying (h := 235 + 2 * i) (g := 61) (by omega) p1 hwo (by omega))) rfl rfl rfl rfl rfl rfl (fun r1 m5 hq => ?_)
              obtain ⟨rfl, g1, g2, g3, g4⟩ := hq
              repeat refine AW.s rfl ?_
              try dsimp only [List.set_cons_zero, List.set_cons_succ, Option.toList_some, Option.toList_none, List.cons_append, List.nil_append]
              rw [show m5 (0 + 61) 1 = nI xs.length by rw [g4 (0 + 61) (by omega) (by omega)]; exact p1.1]
              refine AW.ri rfl rfl rfl ⟨rfl, (hI.fr hW f1).s hW (by omega) g1 g2 (fun k hk => ?_) (fun q hq => ?_), fun q hq => ?_⟩
              · rw [g3 k (by omega)]; rfl
              · by_cases e : q = 235 + 2 * i ∨ q = 235 + 2 * i + 1
                · simp only [e, if_true]
                · simp only [e, if_false]
                  exact g4 q (fun z => e (Or.inl z)) (fun z => e (Or.inr z))
              · rw [g4 q (by omega) (by omega)]; exact f1.K q hq
            · exact absurd rfl hc
      · have e0 : filmF Ω a b = (-2, Ω) := by unfold filmF; rw [cif_f (fun q => q2 q.2)]
        rw [hB_0 q2, e0]
        refine AW.b rfl (fun hc => ?_) (fun hc => ?_)
        · repeat refine AW.s rfl ?_
          try dsimp only [List.set_cons_zero, List.set_cons_succ, Option.toList_some, Option.toList_none, List.cons_append, List.nil_append]
          exact AW.ri rfl rfl rfl ⟨rfl, hI, KC.rf⟩
        · exact absurd rfl hc
  · have e0 : filmF Ω a b = (-2, Ω) := by unfold filmF; rw [cif_f (fun q => q1 q.1)]
    rw [wB_0 q1, e0]
    refine AW.b rfl (fun hc => ?_) (fun hc => ?_)
    · repeat refine AW.s rfl ?_
      try dsimp only [List.set_cons_zero, List.set_cons_succ, Option.toList_some, Option.toList_none, List.cons_append, List.nil_append]
      exact AW.ri rfl rfl rfl ⟨rfl, hI, KC.rf⟩
    · exact absurd rfl hc
def drawnF (Ω : OM) (s : Int32) : Int32 := wthO Ω ((oG Ω) 0 4) (drawL ((oG Ω) 0 2) s)
theorem C_drawn {l : Launch} {X : XT} {d : Nat} {s : Int32} {m : Mem} {Ω : OM} (hd : 7 ≤ d) (hW : WO Ω) (hI : InvC m Ω) : Meth l X d M_X10_drawn [vR 11 0, vI s] m (fun r m' => r = some (vI (drawnF Ω s)) ∧ FrC m m') := by
  obtain ⟨d, rfl⟩ : ∃ e, d = e + 1 := ⟨d - 1, by omega⟩
  refine E_X10_drawn (ls := [vR 11 0, vI s]) rfl rfl ?_
  repeat refine AW.s rfl ?_
  try dsimp only [List.set_cons_zero, List.set_cons_succ, Option.toList_some, Option.toList_none, List.cons_append, List.nil_append]
  rw [show m (0 + 1) 8 = nI ((oG Ω) 0 2) from hI.1.2.2.1]
  refine AW.V k_10_276 ((c_draw (h := 63) (by omega) hW.1.2.2.1)) rfl rfl rfl rfl rfl rfl (fun r1 m9 hq => ?_)
  obtain ⟨rfl, p1, p2⟩ := hq
  have f1 : FrC m m9 := fun q hq => p2 q (by omega) (by omega)
  repeat refine AW.s rfl ?_
  try dsimp only [List.set_cons_zero, List.set_cons_succ, Option.toList_some, Option.toList_none, List.cons_append, List.nil_append]
  refine AW.V k_10_206 ((C_worthBy (ρ := 63) (by omega) hW (hI.fr hW f1) (drawL_wf s) p1 (by omega) (by omega))) rfl rfl rfl rfl rfl rfl (fun r1 m8 hq => ?_)
  obtain ⟨rfl, f2⟩ := hq
  repeat refine AW.s rfl ?_
  try dsimp only [List.set_cons_zero, List.set_cons_succ, Option.toList_some, Option.toList_none, List.cons_append, List.nil_append]
  exact AW.ri rfl rfl rfl ⟨rfl, f1.tr f2⟩
/-- no two words are said alike by a row -/
def noAl (σ : Sg) (rw : List Nat) : Prop := ∀ i, ¬ alikeP (σ 0 1) (saidS σ rw) i
noncomputable def gdN (Ω : OM) (s : Int32) (n : Nat) : Nat := cntP (fun i => noAl (oG Ω) (drawL ((oG Ω) 0 2) (s + nI i))) n
noncomputable def chanceF (Ω : OM) (s n p : Int32) : Int64 := cif (∃ j, 1 ≤ j ∧ j ≤ 20 ∧ n = nI j) (cif (wB p 1 = 1) (if p = 0 then (nI (gdN Ω s n.toNatClampNeg / Nat.gcd (gdN Ω s n.toNatClampNeg) n.toNatClampNeg)).toInt64 else (nI (n.toNatClampNeg / Nat.gcd (gdN Ω s n.toNatClampNeg) n.toNatClampNeg)).toInt64) (-4611686018427387904)) (-4611686018427387904)
theorem C_chance {l : Launch} {X : XT} {d : Nat} {s n p : Int32} {m : Mem} {Ω : OM} (hd : 7 ≤ d) (hW : WO Ω) (hI : InvC m Ω) : Meth l X d M_X10_chance [vR 11 0, vI s, vI n, vI p] m (fun r m' => r = some (vJ (chanceF Ω s n p)) ∧ FrC m m') := by
  obtain ⟨d, rfl⟩ : ∃ e, d = e + 1 := ⟨d - 1, by omega⟩
  have h1 := hW.1.2.1
  have hbad : chanceF Ω s n p = -4611686018427387904 → AW (GM l X (d + 1) M_X10_chance (fun r m' => r = some (vJ (chanceF Ω s n p)) ∧ FrC m m')) 19 [vR 11 0, vI s, vI n, vI p, vU, vU] [] m := by
    intro hn
    rw [hn]
    repeat refine AW.s rfl ?_
    try dsimp only [List.set_cons_zero, List.set_cons_succ, Option.toList_some, Option.toList_none, List.cons_append, List.nil_append]
    exact AW.rl rfl rfl ⟨rfl, FrC.rf⟩
  refine E_X10_chance (ls := [vR 11 0, vI s, vI n, vI p, vU, vU]) rfl rfl ?_
  repeat refine AW.s rfl ?_
  try dsimp only [List.set_cons_zero, List.set_cons_succ, Option.toList_some, Option.toList_none, List.cons_append, List.nil_append]
  refine AW.b rfl (fun hc => ?_) (fun hc => ?_)
  · exact hbad (by
      unfold chanceF
      rw [cif_f]
      rintro ⟨j, j1, j2, rfl⟩
      exact absurd ((nI_ltI (b := 1) (by omega) (by decide)).mp hc) (by omega))
  · have q1 := hc
    repeat refine AW.s rfl ?_
    try dsimp only [List.set_cons_zero, List.set_cons_succ, Option.toList_some, Option.toList_none, List.cons_append, List.nil_append]
    refine AW.b rfl (fun hc => ?_) (fun hc => ?_)
    · exact hbad (by
        unfold chanceF
        rw [cif_f]
        rintro ⟨j, j1, j2, rfl⟩
        exact absurd ((nI_ltI (a := 20) (by decide) (by omega)).mp hc) (by omega))
    · have q2 := hc
      obtain ⟨j, j1, j2, rfl⟩ : ∃ j, 1 ≤ j ∧ j ≤ 20 ∧ n = nI j := by
        obtain ⟨j, hj, rfl⟩ := nI_of (x := n) (fun q => q1 (Int32.lt_trans q (by decide)))
        refine ⟨j, ?_, ?_, rfl⟩
        · have : ¬ j < 1 := fun q => q1 (nI_lt (b := 1) q (by decide))
          omega
        · have : ¬ 20 < j := fun q => q2 (nI_lt (a := 20) q hj)
          omega
      repeat refine AW.s rfl ?_
      try dsimp only [List.set_cons_zero, List.set_cons_succ, Option.toList_some, Option.toList_none, List.cons_append, List.nil_append]
      refine AW.S k_10_113 (c_isWithin) rfl rfl rfl rfl (fun r1 m9 hq => ?_)
      obtain ⟨rfl, hm9⟩ := hq
      rw [hm9]
      try dsimp only [List.set_cons_zero, List.set_cons_succ, Option.toList_some, Option.toList_none, List.cons_append, List.nil_append]
      by_cases q3 : wB p 1 = 1
      · rw [q3]
        have e0 : chanceF Ω s (nI j) p = if p = 0 then (nI (gdN Ω s j / Nat.gcd (gdN Ω s j) j)).toInt64 else (nI (j / Nat.gcd (gdN Ω s j) j)).toInt64 := by
          unfold chanceF
          rw [cif_t ⟨j, j1, j2, rfl⟩, cif_t q3, nI_clamp (by omega)]
        rw [e0]
        refine AW.b rfl (fun hc => ?_) (fun hc => ?_)
        · exact absurd hc (by decide)
        · repeat refine AW.u 29 rfl rfl ?_
          try dsimp only [List.set_cons_zero, List.set_cons_succ, Option.toList_some, Option.toList_none, List.cons_append, List.nil_append]
          refine AW.loop (pc := 29) (σ := Unit) j (fun i _ => [vR 11 0, vI s, vI (nI j), vI p, vI (nI (gdN Ω s i)), vI (nI i)]) (fun i _ m1 => FrC m m1) (fun i _ m1 hi hf ih => ?_) 0 () m (Nat.zero_le _) FrC.rf
          have hI1 := hI.fr hW hf
          repeat refine AW.s rfl ?_
          try dsimp only [List.set_cons_zero, List.set_cons_succ, Option.toList_some, Option.toList_none, List.cons_append, List.nil_append]
          refine AW.b rfl (fun hc => ?_) (fun hc => ?_)
          · have hlt : i < j := (nI_ltI (by omega) (by omega)).mp hc
            repeat refine AW.s rfl ?_
            try dsimp only [List.set_cons_zero, List.set_cons_succ, Option.toList_some, Option.toList_none, List.cons_append, List.nil_append]
            rw [show m1 (0 + 1) 8 = nI ((oG Ω) 0 2) from hI1.1.2.2.1]
            refine AW.V k_10_276 ((c_draw (h := 63) (by omega) hW.1.2.2.1)) rfl rfl rfl rfl rfl rfl (fun r1 m8 hq => ?_)
            obtain ⟨rfl, p1, p2⟩ := hq
            have f1 : FrC m1 m8 := fun q hq => p2 q (by omega) (by omega)
            have hI2 := hI1.fr hW f1
            repeat refine AW.s rfl ?_
            try dsimp only [List.set_cons_zero, List.set_cons_succ, Option.toList_some, Option.toList_none, List.cons_append, List.nil_append]
            refine AW.V k_10_210 ((c_sayAll (H := 43) (ρ := 63) (by omega) hI2.1 hW.1 (drawL_wf _) p1 (by decide) (by omega))) rfl rfl rfl rfl rfl rfl (fun r1 m7 hq => ?_)
            obtain ⟨rfl, hY, f2⟩ := hq
            repeat refine AW.s rfl ?_
            try dsimp only [List.set_cons_zero, List.set_cons_succ, Option.toList_some, Option.toList_none, List.cons_append, List.nil_append]
            refine AW.V k_10_214 ((c_alike (H := 43) (by omega) h1 hY (fun w hw => saidS_wf hW.1 (drawL_wf _) hw))) rfl rfl rfl rfl rfl rfl (fun r1 m6 hq => ?_)
            obtain ⟨x, rfl, hx, hm6⟩ := hq
            rw [hm6]
            have ff : FrC m m7 := (hf.tr f1).tr (fun q hq => f2 q (by omega))
            try dsimp only [List.set_cons_zero, List.set_cons_succ, Option.toList_some, Option.toList_none, List.cons_append, List.nil_append]
            refine AW.b rfl (fun hc => ?_) (fun hc => ?_)
            · have ex : x = 0 := hc
              have hn : noAl (oG Ω) (drawL ((oG Ω) 0 2) (s + nI i)) := by
                intro b hb
                obtain ⟨v, v1, v2, v3⟩ := hx
                have : v = 0 := (nI_eq (b := 0) v1 (by decide)).mp (v2.symm.trans ex)
                have hb := (v3 b).mpr hb
                rw [this] at hb
                simp at hb
              have ih := ih () m7 hlt ff
              rw [show gdN Ω s (i + 1) = gdN Ω s i + 1 from cntP_yes hn] at ih
              repeat refine AW.u 29 rfl rfl ?_
              try dsimp only [List.set_cons_zero, List.set_cons_succ, Option.toList_some, Option.toList_none, List.cons_append, List.nil_append]
              rw [nI_1, nI_1]
              exact ih
            · have ex : ¬ x = 0 := hc
              have hn : ¬ noAl (oG Ω) (drawL ((oG Ω) 0 2) (s + nI i)) := by
                intro hn
                apply ex
                exact isBits.uniq hx isBits.zero (fun b => ⟨fun q => hn b q, fun q => absurd q id⟩)
              have ih := ih () m7 hlt ff
              rw [show gdN Ω s (i + 1) = gdN Ω s i from cntP_no hn] at ih
              repeat refine AW.u 29 rfl rfl ?_
              try dsimp only [List.set_cons_zero, List.set_cons_succ, Option.toList_some, Option.toList_none, List.cons_append, List.nil_append]
              rw [nI_1]
              exact ih
          · have : i = j := by
              have : ¬ i < j := fun q => hc ((nI_ltI (by omega) (by omega)).mpr q)
              omega
            subst this
            have hgl : gdN Ω s i ≤ i := cntP_le i
            repeat refine AW.s rfl ?_
            try dsimp only [List.set_cons_zero, List.set_cons_succ, Option.toList_some, Option.toList_none, List.cons_append, List.nil_append]
            refine AW.S k_10_282 ((c_commonDivisor (by omega) (by omega))) rfl rfl rfl rfl (fun r1 m5 hq => ?_)
            obtain ⟨rfl, hm5⟩ := hq
            rw [hm5, cdN_gcd i (by omega) (gdN Ω s i) (by omega) (by omega)]
            have hg0 : 0 < Nat.gcd (gdN Ω s i) i := Nat.gcd_pos_of_pos_right _ (by omega)
            have hgi : Nat.gcd (gdN Ω s i) i ≤ i := Nat.gcd_le_right _ (by omega)
            repeat refine AW.s rfl ?_
            try dsimp only [List.set_cons_zero, List.set_cons_succ, Option.toList_some, Option.toList_none, List.cons_append, List.nil_append]
            refine AW.b rfl (fun hc => ?_) (fun hc => ?_)
            · rw [if_pos hc]
              repeat refine AW.s rfl ?_
              try dsimp only [List.set_cons_zero, List.set_cons_succ, Option.toList_some, Option.toList_none, List.cons_append, List.nil_append]
              refine AW.c rfl (nI_ne0 (by omega) (by omega)) ?_
              try dsimp only [List.set_cons_zero, List.set_cons_succ, Option.toList_some, Option.toList_none, List.cons_append, List.nil_append]
              rw [pk_div (by omega) (by omega) (by omega)]
              repeat refine AW.s rfl ?_
              try dsimp only [List.set_cons_zero, List.set_cons_succ, Option.toList_some, Option.toList_none, List.cons_append, List.nil_append]
              exact AW.rl rfl rfl ⟨rfl, hf⟩
            · rw [if_neg hc]
              repeat refine AW.s rfl ?_
              try dsimp only [List.set_cons_zero, List.set_cons_succ, Option.toList_some, Option.toList_none, List.cons_append, List.nil_append]
              refine AW.c rfl (nI_ne0 (by omega) (by omega)) ?_
              try dsimp only [List.set_cons_zero, List.set_cons_succ, Option.toList_some, Option.toList_none, List.cons_append, List.nil_append]
              rw [pk_div (by omega) (by omega) (by omega)]
              repeat refine AW.s rfl ?_
              try dsimp only [List.set_cons_zero, List.set_cons_succ, Option.toList_some, Option.toList_none, List.cons_append, List.nil_append]
              exact AW.rl rfl rfl ⟨rfl, hf⟩
      · rw [wB_0 q3]
        refine AW.b rfl (fun hc => ?_) (fun hc => ?_)
        · exact hbad (by
            unfold chanceF
            rw [cif_t ⟨j, j1, j2, rfl⟩, cif_f q3])
        · exact absurd rfl hc
