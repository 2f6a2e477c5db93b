-- ===== the model holds the same =====
def LTC : List Int32 := [108, 111, 110, 103, 118, 111, 119, 101, 108, 115, 114, 117, 108, 101, 115, 110, 117, 109, 98, 101, 114, 119, 111, 114, 100, 119, 101, 105, 103, 104, 116, 104, 97, 114, 100, 104, 105, 100, 101, 115, 109, 105, 110, 100, 115, 111, 114, 97, 110, 100, 110, 111, 116]
def BGN : List Nat := [0, 4, 10, 15, 21, 25, 31, 35, 40, 45, 47, 50, 53]
def RepK (m : Mem) (κ : Sg) : Prop :=
  m 265 0 = nI (κ 0 0) ∧ m 265 1 = nI (κ 0 1) ∧ m 265 2 = nI (κ 0 2) ∧ m 265 3 = nI (κ 0 3) ∧ m 265 4 = nI (κ 0 4) ∧
  (∀ w, w < κ 0 1 → m 265 (90 + w) = nI (κ 1 w) ∧ m 265 (98 + w) = nI (κ 2 w) ∧ ∀ k, k < κ 1 w → m 265 (10 + (10 * w + k)) = nI (κ (10 + w) k)) ∧
  (∀ r, r < κ 0 2 → m 265 (106 + r) = nI (κ 4 r) ∧ m 265 (112 + r) = nI (κ 5 r)) ∧ ∀ i, i < κ 0 3 → m 265 (118 + i) = nI (κ 6 i)
def InvM (m : Mem) (Ω : OM) : Prop :=
  RepM m (oG Ω) ∧ m 243 39 = (if oK Ω then 1 else 0) ∧ (oK Ω = true → RepK m (oX Ω)) ∧ m 243 13 = nI (oQ Ω) ∧
  (∀ t, t < oQ Ω → ∀ p, p < 3 → ∃ cs, MOK m (3 * t + p) cs ∧ ∀ F, clI (mvl F cs) = oV Ω t p F) ∧
  m 243 12 = nI (oN Ω) ∧ (∀ k, k < oN Ω → m 251 k = oB Ω k) ∧
  (∀ i, i < 4 → m 266 i = oS Ω i ∧ m 267 i = nI (oZ Ω i) ∧ ∀ k, k < oZ Ω i → m 268 (40 * i + k) = oI Ω i k) ∧
  (∀ k, k < 53 → m 254 k = LTC.getD k 0) ∧ ∀ k, k < 13 → m 255 k = nI (BGN.getD k 0)
/-- what the model's questions leave alone -/
def FrM (m m' : Mem) : Prop := (∀ a, (a < 243 ∨ (244 ≤ a ∧ a ≤ 255) ∨ (265 ≤ a ∧ a ≤ 268)) → m' a = m a) ∧ ∀ k, (k ≤ 14 ∨ k = 39) → m' 243 k = m 243 k
theorem FrM.rf {m : Mem} : FrM m m := ⟨fun _ _ => rfl, fun _ _ => rfl⟩
theorem FrM.tr {m m' m'' : Mem} (h1 : FrM m m') (h2 : FrM m' m'') : FrM m m'' := ⟨fun a h => by rw [h2.1 a h, h1.1 a h], fun k h => by rw [h2.2 k h, h1.2 k h]⟩
theorem FrW.M {m m' : Mem} (h : FrW m m') : FrM m m' := ⟨fun a ha => h.1 a (by omega) (by omega) (by omega) (by omega) (by omega) (by omega) (by omega), fun k hk => h.2 k (by omega)⟩
theorem FrS.M {m m' : Mem} (h : FrS m m') : FrM m m' := h.W.M
theorem FrT.M {m m' : Mem} (h : FrT m m') : FrM m m' := h.S.M
/-- nothing of the class changes -/
def KM (m m' : Mem) : Prop := ∀ a, a < 243 → m' a = m a
theorem KM.rf {m : Mem} : KM m m := fun _ _ => rfl
theorem KM.tr {m m' m'' : Mem} (h1 : KM m m') (h2 : KM m' m'') : KM m m'' := fun a h => by rw [h2 a h, h1 a h]
theorem FrM.K {m m' : Mem} (h : FrM m m') : KM m m' := fun a ha => h.1 a (Or.inl ha)
theorem RepM.M {m m' : Mem} {σ : Sg} (h : RepM m σ) (hf : FrM m m') : RepM m' σ := h.fr (hf.2 0 (by omega)) (hf.2 1 (by omega)) (hf.2 5 (by omega)) (hf.2 9 (by omega)) (hf.2 14 (by omega)) (fun a h1 h2 => hf.1 a (by omega))
theorem RepK.fr {m m' : Mem} {κ : Sg} (h : RepK m κ) (hf : m' 265 = m 265) : RepK m' κ := by
  unfold RepK
  rw [hf]
  exact h
/-- all but the state is as it was -/
theorem InvM.g {m m' : Mem} {Ω : OM} {σ : Sg} (h : InvM m Ω) (hs : RepM m' σ) (hf : ∀ a, 251 ≤ a → a ≤ 255 ∨ (265 ≤ a ∧ a ≤ 268) → m' a = m a) (h0 : ∀ k, (k = 12 ∨ k = 13 ∨ k = 39) → m' 243 k = m 243 k) : InvM m' (uG Ω σ) := by
  obtain ⟨h1, h2, h3, h4, h5, h6, h7, h8, h9, h10⟩ := h
  refine ⟨hs, by rw [h0 39 (by omega)]; exact h2, fun k => (h3 k).fr (hf 265 (by omega) (by omega)), by rw [h0 13 (by omega)]; exact h4, fun t ht p hp => ?_, by rw [h0 12 (by omega)]; exact h6, by rw [hf 251 (by omega) (by omega)]; exact h7, by rw [hf 266 (by omega) (by omega), hf 267 (by omega) (by omega), hf 268 (by omega) (by omega)]; exact h8, by rw [hf 254 (by omega) (by omega)]; exact h9, by rw [hf 255 (by omega) (by omega)]; exact h10⟩
  obtain ⟨cs, c1, c2⟩ := h5 t ht p hp
  exact ⟨cs, c1.fr (hf 252 (by omega) (by omega)) (hf 253 (by omega) (by omega)), c2⟩
theorem InvM.fr {m m' : Mem} {Ω : OM} (h : InvM m Ω) (hf : FrM m m') : InvM m' Ω := h.g (h.1.M hf) (fun a h1 h2 => hf.1 a (by omega)) (fun k hk => hf.2 k (by omega))
theorem inB_hB {v : Int32} {n : Nat} (hn : n < 2 ^ 31) : inB v n = hB v n := by
  by_cases h : ∃ j, j < n ∧ v = nI j
  · rw [(inB_1 hn).mpr h, (hB_1 hn).mpr h]
  · rw [inB_0 hn (fun q => h ((inB_1 hn).mp q)), hB_0 (fun q => h ((hB_1 hn).mp q))]
section
variable {l : Launch} {X : XT} {d : Nat} {m : Mem} {Ω : OM}
theorem c_in0 {v b : Int32} : Meth l X d M_X11_isIn [vI v, vI 0, vI b] m (fun r m' => r = some (vI (wB v b)) ∧ m' = m) := c_isIn
theorem c_MisSheet {v : Int32} (hd : 1 ≤ d) : Meth l X d M_X11_isSheet [vI v] m (fun r m' => r = some (vI (wB v 3)) ∧ m' = m) := by
  obtain ⟨d, rfl⟩ : ∃ e, d = e + 1 := ⟨d - 1, by omega⟩
  refine E_X11_isSheet (ls := [vI v]) rfl rfl ?_
  repeat refine AW.s rfl ?_
  try dsimp only [List.set_cons_zero, List.set_cons_succ, Option.toList_some, Option.toList_none, List.cons_append, List.nil_append]
  refine AW.S k_11_7 (c_in0) rfl rfl rfl rfl (fun r1 m9 hq => ?_)
  obtain ⟨rfl, hm9⟩ := hq
  exact AW.ri rfl rfl (wB_nar _ _) ⟨rfl, hm9⟩
theorem c_Mword {v : Int32} {σ : Sg} (hd : 1 ≤ d) (hs : RepM m σ) (hσ : WF σ) : Meth l X d M_X11_isWord [vR 12 243, vI v] m (fun r m' => r = some (vI (hB v (σ 0 1))) ∧ m' = m) := by
  have h1 := hσ.2.1
  rw [← inB_hB (show σ 0 1 < 2 ^ 31 by omega)]
  exact c_MisWord hd hs
theorem c_Mrule {v : Int32} {σ : Sg} (hd : 1 ≤ d) (hs : RepM m σ) (hσ : WF σ) : Meth l X d M_X11_isRule [vR 12 243, vI v] m (fun r m' => r = some (vI (hB v (σ 0 2))) ∧ m' = m) := by
  have h1 := hσ.2.2.1
  rw [← inB_hB (show σ 0 2 < 2 ^ 31 by omega)]
  exact c_MisRule hd hs
theorem sort_lt {i : Nat} (h : shOK Ω i) : (oS Ω i < 0 ↔ oS Ω i = -1) := by
  rcases h with ⟨h, -⟩ | ⟨⟨s, hs, h⟩, -⟩
  · rw [h]; decide
  · rw [h]
    refine ⟨fun q => absurd q (nI_pos (by omega)), fun q => absurd q (nI_m1 (by omega))⟩
/-- the first n letters, from where words are spelt -/
theorem M_learn {a b : Int32} (hd : 5 ≤ d) (hW : WO Ω) (hI : InvM m Ω) : Meth l X d M_X11_learn [vR 12 243, vI a, vI b] m (fun r m' => r = some (vI (learnF Ω a b).1) ∧ InvM m' (learnF Ω a b).2 ∧ KM m m') := by
  obtain ⟨d, rfl⟩ : ∃ e, d = e + 1 := ⟨d - 1, by omega⟩
  have hbad : ¬ (wB a 3 = 1 ∧ wB b 99 = 1) → AW (GM l X (d + 1) M_X11_learn (fun r m' => r = some (vI (learnF Ω a b).1) ∧ InvM m' (learnF Ω a b).2 ∧ KM m m')) 17 [vR 12 243, vI a, vI b, vU, vU] [] m := by
    intro hn
    have e0 : learnF Ω a b = (-2, Ω) := by unfold learnF; rw [cif_f hn]
    rw [e0]
    repeat refine AW.s rfl ?_
    try dsimp only [List.set_cons_zero, List.set_cons_succ, Option.toList_some, Option.toList_none, List.cons_append, List.nil_append]
    exact AW.ri rfl rfl rfl ⟨rfl, hI, KM.rf⟩
  refine E_X11_learn (ls := [vR 12 243, vI a, vI b, vU, vU]) rfl rfl ?_
  repeat refine AW.s rfl ?_
  try dsimp only [List.set_cons_zero, List.set_cons_succ, Option.toList_some, Option.toList_none, List.cons_append, List.nil_append]
  refine AW.S k_11_14 ((c_MisSheet (by omega))) rfl rfl rfl rfl (fun r1 m9 hq => ?_)
  obtain ⟨rfl, hm9⟩ := hq
  rw [hm9]
  try dsimp only [List.set_cons_zero, List.set_cons_succ, Option.toList_some, Option.toList_none, List.cons_append, List.nil_append]
  by_cases q1 : wB a 3 = 1
  · rw [q1]
    refine AW.b rfl (fun hc => ?_) (fun hc => ?_)
    · exact absurd hc (by decide)
    · repeat refine AW.s rfl ?_
      try dsimp only [List.set_cons_zero, List.set_cons_succ, Option.toList_some, Option.toList_none, List.cons_append, List.nil_append]
      refine AW.S k_11_7 (c_in0) rfl rfl rfl rfl (fun r1 m8 hq => ?_)
      obtain ⟨rfl, hm8⟩ := hq
      rw [hm8]
      try dsimp only [List.set_cons_zero, List.set_cons_succ, Option.toList_some, Option.toList_none, List.cons_append, List.nil_append]
      by_cases q2 : wB b 99 = 1
      · rw [q2]
        obtain ⟨i, hi, rfl⟩ := (wB_1 (n := 3) (by decide)).mp q1
        obtain ⟨g, hg, rfl⟩ := (wB_1 (n := 99) (by decide)).mp q2
        have e0 : learnF Ω (nI i) (nI g) = cif (oS Ω i = -1) (-11, Ω) (cif (twP Ω i) (cif ((oG Ω) 0 1 = 8) (-4, Ω) (nI ((oG Ω) 0 1), uG Ω (addW (oG Ω) (fun k => (oI Ω i k).toNatClampNeg) (oZ Ω i) g))) (-2, Ω)) := by
          unfold learnF
          rw [cif_t ⟨q1, q2⟩, nI_clamp (by omega), nI_clamp (by omega)]
        obtain ⟨s1, s2, s3⟩ := hI.2.2.2.2.2.2.2.1 i (by omega)
        have hsh := hW.2.2.2.2.2.2 i (by omega)
        have hz := hsh.le
        refine AW.b rfl (fun hc => ?_) (fun hc => ?_)
        · exact absurd hc (by decide)
        · repeat refine AW.s rfl ?_
          try dsimp only [List.set_cons_zero, List.set_cons_succ, Option.toList_some, Option.toList_none, List.cons_append, List.nil_append]
          refine AW.c rfl (vp_in_nI (by omega) (by decide)) ?_
          try dsimp only [List.set_cons_zero, List.set_cons_succ, Option.toList_some, Option.toList_none, List.cons_append, List.nil_append]
          rw [nI_clamp (by omega), show m (243 + 23) i = oS Ω i from s1]
          refine AW.b rfl (fun hc => ?_) (fun hc => ?_)
          · have q3 := (sort_lt hsh).mp hc
            rw [cif_t q3] at e0
            rw [e0]
            repeat refine AW.s rfl ?_
            try dsimp only [List.set_cons_zero, List.set_cons_succ, Option.toList_some, Option.toList_none, List.cons_append, List.nil_append]
            exact AW.ri rfl rfl rfl ⟨rfl, hI, KM.rf⟩
          · have q3 : ¬ oS Ω i = -1 := fun q => hc ((sort_lt hsh).mpr q)
            rw [cif_f q3] at e0
            repeat refine AW.s rfl ?_
            try dsimp only [List.set_cons_zero, List.set_cons_succ, Option.toList_some, Option.toList_none, List.cons_append, List.nil_append]
            refine AW.c rfl (vp_in_nI (by omega) (by decide)) ?_
            try dsimp only [List.set_cons_zero, List.set_cons_succ, Option.toList_some, Option.toList_none, List.cons_append, List.nil_append]
            rw [nI_clamp (by omega), show m (243 + 24) i = nI (oZ Ω i) from s2]
            repeat refine AW.s rfl ?_
            try dsimp only [List.set_cons_zero, List.set_cons_succ, Option.toList_some, Option.toList_none, List.cons_append, List.nil_append]
            refine AW.S k_11_7 (c_isIn) rfl rfl rfl rfl (fun r1 m7 hq => ?_)
            obtain ⟨rfl, hm7⟩ := hq
            rw [hm7]
            have ein : (if nI (oZ Ω i) < 1 then (0 : Int32) else if 10 < nI (oZ Ω i) then 0 else 1) = if decide (1 ≤ oZ Ω i ∧ oZ Ω i ≤ 10) then 1 else 0 := by
              by_cases z1 : oZ Ω i < 1
              · rw [if_pos (show nI (oZ Ω i) < 1 from nI_lt (b := 1) z1 (by decide)), if_neg (by simp; omega)]
              · rw [if_neg (show ¬ nI (oZ Ω i) < 1 from fun q => z1 ((nI_ltI (b := 1) (by omega) (by decide)).mp q))]
                by_cases z2 : 10 < oZ Ω i
                · rw [if_pos (show 10 < nI (oZ Ω i) from nI_lt (a := 10) z2 (by omega)), if_neg (by simp; omega)]
                · rw [if_neg (show ¬ 10 < nI (oZ Ω i) from fun q => z2 ((nI_ltI (a := 10) (by decide) (by omega)).mp q)), if_pos (by simp; omega)]
            rw [ein]
            repeat refine AW.u 48 rfl rfl ?_
            try dsimp only [List.set_cons_zero, List.set_cons_succ, Option.toList_some, Option.toList_none, List.cons_append, List.nil_append]
            refine AW.loop (pc := 48) (σ := Bool) (oZ Ω i) (fun k bb => [vR 12 243, vI (nI i), vI (nI g), vI (if bb then 1 else 0), vI (nI k)]) (fun k bb m1 => m1 = m ∧ (bb = true ↔ 1 ≤ oZ Ω i ∧ oZ Ω i ≤ 10 ∧ ∀ j, j < k → wB (oI Ω i j) 25 = 1)) (fun k bb m1 hk hm1 ih => ?_) 0 (decide (1 ≤ oZ Ω i ∧ oZ Ω i ≤ 10)) m (Nat.zero_le _) ⟨rfl, by rw [decide_eq_true_eq]; exact ⟨fun q => ⟨q.1, q.2, fun j hj => absurd hj (by omega)⟩, fun q => ⟨q.1, q.2.1⟩⟩⟩
            obtain ⟨rfl, hbb⟩ := hm1
            repeat refine AW.s rfl ?_
            try dsimp only [List.set_cons_zero, List.set_cons_succ, Option.toList_some, Option.toList_none, List.cons_append, List.nil_append]
            refine AW.c rfl (vp_in_nI (by omega) (by decide)) ?_
            try dsimp only [List.set_cons_zero, List.set_cons_succ, Option.toList_some, Option.toList_none, List.cons_append, List.nil_append]
            rw [nI_clamp (by omega), show m1 (243 + 24) i = nI (oZ Ω i) from s2]
            refine AW.b rfl (fun hc => ?_) (fun hc => ?_)
            · have hlt : k < oZ Ω i := (nI_ltI (by omega) (by omega)).mp hc
              repeat refine AW.s rfl ?_
              try dsimp only [List.set_cons_zero, List.set_cons_succ, Option.toList_some, Option.toList_none, List.cons_append, List.nil_append]
              cases bb with
              | false =>
                refine AW.b rfl (fun hc => ?_) (fun hc => ?_)
                · repeat refine AW.u 48 rfl rfl ?_
                  try dsimp only [List.set_cons_zero, List.set_cons_succ, Option.toList_some, Option.toList_none, List.cons_append, List.nil_append]
                  rw [nI_1]
                  exact ih false m1 hlt ⟨rfl, ⟨fun q => (by cases q), fun q => hbb.mpr ⟨q.1, q.2.1, fun j hj => q.2.2 j (by omega)⟩⟩⟩
                · exact absurd rfl hc
              | true =>
                have ht := hbb.mp rfl
                refine AW.b rfl (fun hc => ?_) (fun hc => ?_)
                · exact absurd (show (1 : Int32) = 0 from hc) (by decide)
                · repeat refine AW.s rfl ?_
                  try dsimp only [List.set_cons_zero, List.set_cons_succ, Option.toList_some, Option.toList_none, List.cons_append, List.nil_append]
                  rw [show (40 : Int32) * nI i = nI (40 * i) from pk_mul 40 i, nI_add]
                  refine AW.c rfl (vp_in_nI (by omega) (by decide)) ?_
                  try dsimp only [List.set_cons_zero, List.set_cons_succ, Option.toList_some, Option.toList_none, List.cons_append, List.nil_append]
                  rw [nI_clamp (by omega), show m1 (243 + 25) (40 * i + k) = oI Ω i k from s3 k hlt]
                  repeat refine AW.s rfl ?_
                  try dsimp only [List.set_cons_zero, List.set_cons_succ, Option.toList_some, Option.toList_none, List.cons_append, List.nil_append]
                  refine AW.S k_11_7 (c_in0) rfl rfl rfl rfl (fun r1 m6 hq => ?_)
                  obtain ⟨rfl, hm6⟩ := hq
                  rw [hm6]
                  try dsimp only [List.set_cons_zero, List.set_cons_succ, Option.toList_some, Option.toList_none, List.cons_append, List.nil_append]
                  by_cases q5 : wB (oI Ω i k) 25 = 1
                  · rw [q5]
                    refine AW.b rfl (fun hc => ?_) (fun hc => ?_)
                    · exact absurd hc (by decide)
                    · repeat refine AW.u 48 rfl rfl ?_
                      try dsimp only [List.set_cons_zero, List.set_cons_succ, Option.toList_some, Option.toList_none, List.cons_append, List.nil_append]
                      rw [nI_1]
                      refine ih true m1 hlt ⟨rfl, ⟨fun _ => ⟨ht.1, ht.2.1, fun j hj => ?_⟩, fun _ => rfl⟩⟩
                      by_cases e : j = k
                      · subst e; exact q5
                      · exact ht.2.2 j (by omega)
                  · rw [wB_0 q5]
                    refine AW.b rfl (fun hc => ?_) (fun hc => ?_)
                    · repeat refine AW.u 48 rfl rfl ?_
                      try dsimp only [List.set_cons_zero, List.set_cons_succ, Option.toList_some, Option.toList_none, List.cons_append, List.nil_append]
                      rw [nI_1]
                      exact ih false m1 hlt ⟨rfl, ⟨fun q => (by cases q), fun q => absurd (q.2.2 k (by omega)) q5⟩⟩
                    · exact absurd rfl hc
            · have : k = oZ Ω i := by
                have : ¬ k < oZ Ω i := fun q => hc ((nI_ltI (by omega) (by omega)).mpr q)
                omega
              subst this
              repeat refine AW.s rfl ?_
              try dsimp only [List.set_cons_zero, List.set_cons_succ, Option.toList_some, Option.toList_none, List.cons_append, List.nil_append]
              cases bb with
              | false =>
                rw [cif_f (show ¬ twP Ω i from fun q => by cases hbb.mpr q)] at e0
                rw [e0]
                refine AW.b rfl (fun hc => ?_) (fun hc => ?_)
                · repeat refine AW.s rfl ?_
                  try dsimp only [List.set_cons_zero, List.set_cons_succ, Option.toList_some, Option.toList_none, List.cons_append, List.nil_append]
                  exact AW.ri rfl rfl rfl ⟨rfl, hI, KM.rf⟩
                · exact absurd rfl hc
              | true =>
                have ht : twP Ω i := hbb.mp rfl
                rw [cif_t ht] at e0
                refine AW.b rfl (fun hc => ?_) (fun hc => ?_)
                · exact absurd (show (1 : Int32) = 0 from hc) (by decide)
                · repeat refine AW.s rfl ?_
                  try dsimp only [List.set_cons_zero, List.set_cons_succ, Option.toList_some, Option.toList_none, List.cons_append, List.nil_append]
                  rw [show m1 243 1 = nI ((oG Ω) 0 1) from hI.1.2.1]
                  have h8 := hW.1.2.1
                  refine AW.b rfl (fun hc => ?_) (fun hc => ?_)
                  · have e8 : (oG Ω) 0 1 = 8 := (nI_eq (b := 8) (by omega) (by decide)).mp hc
                    rw [cif_t e8] at e0
                    rw [e0]
                    repeat refine AW.s rfl ?_
                    try dsimp only [List.set_cons_zero, List.set_cons_succ, Option.toList_some, Option.toList_none, List.cons_append, List.nil_append]
                    exact AW.ri rfl rfl rfl ⟨rfl, hI, KM.rf⟩
                  · have e8 : ¬ (oG Ω) 0 1 = 8 := fun q => hc (by rw [q]; rfl)
                    rw [cif_f e8] at e0
                    rw [e0]
                    generalize hWn : (oG Ω) 0 1 = W at *
                    have hWm : m1 243 1 = nI W := by rw [← hWn]; exact hI.1.2.1
                    repeat refine AW.u 118 rfl rfl ?_
                    try dsimp only [List.set_cons_zero, List.set_cons_succ, Option.toList_some, Option.toList_none, List.cons_append, List.nil_append]
                    refine AW.loop (pc := 118) (σ := Unit) (oZ Ω i) (fun k _ => [vR 12 243, vI (nI i), vI (nI g), vI 1, vI (nI k)]) (fun k _ m2 => (∀ q, q ≠ 244 → m2 q = m1 q) ∧ (∀ j, j < k → m2 244 (10 * W + j) = oI Ω i j) ∧ ∀ q, q < 10 * W → m2 244 q = m1 244 q) (fun k _ m2 hk hm2 ih => ?_) 0 () m1 (Nat.zero_le _) ⟨fun _ _ => rfl, fun j hj => absurd hj (by omega), fun _ _ => rfl⟩
                    obtain ⟨g1, g2, g3⟩ := hm2
                    have ht10 := ht.2.1
                    repeat refine AW.s rfl ?_
                    try dsimp only [List.set_cons_zero, List.set_cons_succ, Option.toList_some, Option.toList_none, List.cons_append, List.nil_append]
                    refine AW.c rfl (vp_in_nI (by omega) (by decide)) ?_
                    try dsimp only [List.set_cons_zero, List.set_cons_succ, Option.toList_some, Option.toList_none, List.cons_append, List.nil_append]
                    rw [nI_clamp (by omega), show m2 (243 + 24) i = nI (oZ Ω i) by rw [g1 _ (by decide)]; exact s2]
                    refine AW.b rfl (fun hc => ?_) (fun hc => ?_)
                    · have hlt : k < oZ Ω i := (nI_ltI (by omega) (by omega)).mp hc
                      repeat refine AW.s rfl ?_
                      try dsimp only [List.set_cons_zero, List.set_cons_succ, Option.toList_some, Option.toList_none, List.cons_append, List.nil_append]
                      rw [show m2 243 1 = nI W by rw [g1 _ (by decide)]; exact hWm, show (10 : Int32) * nI W = nI (10 * W) from pk_mul 10 W, nI_add, show (40 : Int32) * nI i = nI (40 * i) from pk_mul 40 i, nI_add]
                      refine AW.c rfl (vp_in_nI (by omega) (by decide)) ?_
                      try dsimp only [List.set_cons_zero, List.set_cons_succ, Option.toList_some, Option.toList_none, List.cons_append, List.nil_append]
                      rw [nI_clamp (by omega), show m2 (243 + 25) (40 * i + k) = oI Ω i k by rw [g1 _ (by decide)]; exact s3 k hlt]
                      refine AW.c rfl (⟨vp_in_nI (by omega) (by decide), fun z => absurd z (by decide)⟩) ?_
                      try dsimp only [List.set_cons_zero, List.set_cons_succ, Option.toList_some, Option.toList_none, List.cons_append, List.nil_append]
                      rw [nI_clamp (by omega)]
                      repeat refine AW.u 118 rfl rfl ?_
                      try dsimp only [List.set_cons_zero, List.set_cons_succ, Option.toList_some, Option.toList_none, List.cons_append, List.nil_append]
                      rw [nI_1]
                      refine ih () _ hlt ⟨fun q hq => by rw [mUp_a hq]; exact g1 q hq, fun j hj => ?_, fun q hq => by rw [mUp_n (Or.inr (by omega))]; exact g3 q hq⟩
                      by_cases e : j = k
                      · subst e; exact mUp_s _ _ _ _
                      · rw [mUp_n (Or.inr (by omega))]; exact g2 j (by omega)
                    · have : k = oZ Ω i := by
                        have : ¬ k < oZ Ω i := fun q => hc ((nI_ltI (by omega) (by omega)).mpr q)
                        omega
                      subst this
                      have hW2 : m2 243 1 = nI W := by rw [g1 _ (by decide)]; exact hWm
                      repeat refine AW.s rfl ?_
                      try dsimp only [List.set_cons_zero, List.set_cons_succ, Option.toList_some, Option.toList_none, List.cons_append, List.nil_append]
                      rw [hW2]
                      refine AW.c rfl (vp_in_nI (by omega) (by decide)) ?_
                      try dsimp only [List.set_cons_zero, List.set_cons_succ, Option.toList_some, Option.toList_none, List.cons_append, List.nil_append]
                      rw [nI_clamp (by omega), show m2 (243 + 24) i = nI (oZ Ω i) by rw [g1 _ (by decide)]; exact s2]
                      refine AW.c rfl (⟨vp_in_nI (by omega) (by decide), fun z => absurd z (by decide)⟩) ?_
                      try dsimp only [List.set_cons_zero, List.set_cons_succ, Option.toList_some, Option.toList_none, List.cons_append, List.nil_append]
                      rw [nI_clamp (by omega)]
                      repeat refine AW.s rfl ?_
                      try dsimp only [List.set_cons_zero, List.set_cons_succ, Option.toList_some, Option.toList_none, List.cons_append, List.nil_append]
                      rw [mUp_a (by decide), hW2]
                      refine AW.c rfl (⟨vp_in_nI (by omega) (by decide), fun z => absurd z (by decide)⟩) ?_
                      try dsimp only [List.set_cons_zero, List.set_cons_succ, Option.toList_some, Option.toList_none, List.cons_append, List.nil_append]
                      rw [nI_clamp (by omega)]
                      repeat refine AW.s rfl ?_
                      try dsimp only [List.set_cons_zero, List.set_cons_succ, Option.toList_some, Option.toList_none, List.cons_append, List.nil_append]
                      rw [show mUp (mUp m2 (243 + 2) W (nI (oZ Ω i))) (243 + 3) W (nI g) 243 1 = nI W by rw [mUp_a (by decide), mUp_a (by decide)]; exact hW2, nI_1, mUp_s, show nI (W + 1) - 1 = nI W from pk_sub (b := 1) (by omega)]
                      have fr : ∀ q, q ≠ 243 → q ≠ 244 → q ≠ 245 → q ≠ 246 → mUp (mUp (mUp m2 (243 + 2) W (nI (oZ Ω i))) (243 + 3) W (nI g)) 243 1 (nI (W + 1)) q = m1 q := fun q x1 x2 x3 x4 => by rw [mUp_a x1, mUp_a x4, mUp_a x3]; exact g1 q x2
                      have fr0 : ∀ k, k ≠ 1 → mUp (mUp (mUp m2 (243 + 2) W (nI (oZ Ω i))) (243 + 3) W (nI g)) 243 1 (nI (W + 1)) 243 k = m1 243 k := fun k hk => by rw [mUp_n (Or.inr hk), mUp_a (by decide), mUp_a (by decide), g1 243 (by decide)]
                      refine AW.ri rfl rfl rfl ⟨rfl, hI.g ?_ (fun a h1 h2 => fr a (by omega) (by omega) (by omega) (by omega)) (fun k hk => fr0 k (by omega)), fun a ha => fr a (by omega) (by omega) (by omega) (by omega)⟩
                      obtain ⟨a1, a2, a3, a4, a5, a6, a7, a8⟩ := hI.1
                      have eW : ∀ a k, a ≠ 0 → a ≠ 1 → a ≠ 2 → a ≠ 10 + W → addW (oG Ω) (fun k => (oI Ω i k).toNatClampNeg) (oZ Ω i) g a k = (oG Ω) a k := fun a k x0 x1 x2 x3 => by
                        unfold addW
                        rw [sU_o x0, sU_o x2, sU_o x1, hWn, if_neg x3]
                      have eW0 : ∀ k, k ≠ 1 → addW (oG Ω) (fun k => (oI Ω i k).toNatClampNeg) (oZ Ω i) g 0 k = (oG Ω) 0 k := fun k hk => by
                        unfold addW
                        rw [sU_n (Or.inr hk), sU_o (by decide), sU_o (by decide), if_neg (by omega)]
                      have eW1 : addW (oG Ω) (fun k => (oI Ω i k).toNatClampNeg) (oZ Ω i) g 0 1 = W + 1 := by unfold addW; rw [sU_t, hWn]
                      have eS : ∀ w, addW (oG Ω) (fun k => (oI Ω i k).toNatClampNeg) (oZ Ω i) g 1 w = if w = W then oZ Ω i else (oG Ω) 1 w := fun w => by
                        unfold addW
                        rw [sU_o (by decide), sU_o (by decide), hWn]
                        by_cases e : w = W
                        · subst e; rw [sU_t, if_pos rfl]
                        · rw [sU_n (Or.inr e), if_neg e, if_neg (by omega)]
                      have eG : ∀ w, addW (oG Ω) (fun k => (oI Ω i k).toNatClampNeg) (oZ Ω i) g 2 w = if w = W then g else (oG Ω) 2 w := fun w => by
                        unfold addW
                        rw [sU_o (by decide), hWn]
                        by_cases e : w = W
                        · subst e; rw [sU_t, if_pos rfl]
                        · rw [sU_n (Or.inr e), if_neg e, sU_o (by decide), if_neg (by omega)]
                      have eL : ∀ k, addW (oG Ω) (fun k => (oI Ω i k).toNatClampNeg) (oZ Ω i) g (10 + W) k = (oI Ω i k).toNatClampNeg := fun k => by
                        unfold addW
                        rw [sU_o (by omega), sU_o (by omega), sU_o (by omega), hWn, if_pos rfl]
                      refine ⟨by rw [fr0 0 (by decide), eW0 0 (by decide)]; exact a1, by rw [eW1]; exact mUp_s _ _ _ _, by rw [fr0 5 (by decide), eW0 2 (by decide)]; exact a3, by rw [fr0 9 (by decide), eW0 3 (by decide)]; exact a4, by rw [fr0 14 (by decide), eW0 4 (by decide)]; exact a5, fun w hw => ?_, fun r hr => ?_, fun q hq => ?_⟩
                      · rw [eW1] at hw
                        rw [eS, eG]
                        by_cases e : w = W
                        · subst e
                          rw [if_pos rfl, if_pos rfl]
                          refine ⟨?_, ?_, fun k hk => ?_⟩
                          · rw [mUp_a (by decide), mUp_a (by decide)]; exact mUp_s _ _ _ _
                          · rw [mUp_a (by decide)]; exact mUp_s _ _ _ _
                          · rw [mUp_a (by decide), mUp_a (by decide), mUp_a (by decide), g2 k hk, eL]
                            obtain ⟨j, hj, ej⟩ := (wB_1 (n := 25) (by decide)).mp (ht.2.2 k hk)
                            rw [ej, nI_clamp (by omega)]
                        · rw [if_neg e, if_neg e]
                          have hw2 : w < (oG Ω) 0 1 := by rw [hWn]; omega
                          obtain ⟨x1, x2, x3⟩ := a6 w hw2
                          have x10 := (hW.1.2.2.2.2.2.1 w hw2).2.1
                          refine ⟨?_, ?_, fun k hk => ?_⟩
                          · rw [mUp_a (by decide), mUp_a (by decide), mUp_n (Or.inr e), g1 245 (by decide)]; exact x1
                          · rw [mUp_a (by decide), mUp_n (Or.inr e), mUp_a (by decide), g1 246 (by decide)]; exact x2
                          · rw [mUp_a (by decide), mUp_a (by decide), mUp_a (by decide), g3 _ (by omega), eW (10 + w) k (by omega) (by omega) (by omega) (by omega)]; exact x3 k hk
                      · rw [eW0 2 (by decide)] at hr
                        rw [fr 247 (by decide) (by decide) (by decide) (by decide), fr 248 (by decide) (by decide) (by decide) (by decide), fr 249 (by decide) (by decide) (by decide) (by decide), eW 3 r (by decide) (by decide) (by decide) (by omega), eW 4 r (by decide) (by decide) (by decide) (by omega), eW 5 r (by decide) (by decide) (by decide) (by omega)]
                        exact a7 r hr
                      · rw [eW0 3 (by decide)] at hq
                        rw [fr 250 (by decide) (by decide) (by decide) (by decide), eW 6 q (by decide) (by decide) (by decide) (by omega)]
                        exact a8 q hq
      · rw [wB_0 q2]
        refine AW.b rfl (fun hc => ?_) (fun hc => ?_)
        · exact hbad (fun q => q2 q.2)
        · exact absurd rfl hc
  · rw [wB_0 q1]
    refine AW.b rfl (fun hc => ?_) (fun hc => ?_)
    · exact hbad (fun q => q1 q.1)
    · exact absurd rfl hc
end
