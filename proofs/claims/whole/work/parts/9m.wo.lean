-- ===== every call keeps the bounds; every answer is one =====
theorem WO.learn {Ω : OM} (h : WO Ω) (a b : Int32) : WO (learnF Ω a b).2 := by
  unfold learnF
  by_cases q1 : wB a 3 = 1 ∧ wB b 99 = 1
  · rw [cif_t q1]
    obtain ⟨i, hi, rfl⟩ := (wB_1 (n := 3) (by decide)).mp q1.1
    obtain ⟨g, hg, rfl⟩ := (wB_1 (n := 99) (by decide)).mp q1.2
    rw [nI_clamp (by omega), nI_clamp (by omega)]
    by_cases q2 : oS Ω i = -1
    · rw [cif_t q2]; exact h
    · rw [cif_f q2]
      by_cases q3 : twP Ω i
      · rw [cif_t q3]
        by_cases q4 : (oG Ω) 0 1 = 8
        · rw [cif_t q4]; exact h
        · rw [cif_f q4]
          have h8 := h.1.2.1
          refine h.g (addW_wf h.1 (by omega) q3.1 q3.2.1 hg (fun k hk => ?_)) ?_ (fun kk => ?_)
          · obtain ⟨c, hc, e⟩ := (wB_1 (n := 25) (by decide)).mp (q3.2.2 k hk)
            show (oI Ω i k).toNatClampNeg < 26
            rw [e, nI_clamp (by omega)]
            omega
          · rw [addW_n (by decide) (Or.inl (by decide)) (Or.inl (by decide)) (by omega)]; exact h.2.2.1
          · obtain ⟨x1, x2, x3, x4⟩ := h.2.1 kk
            refine ⟨by rw [addW_n (by decide) (Or.inl (by decide)) (Or.inl (by decide)) (by omega)]; exact x2, fun r hr => by rw [addW_n (Or.inl (by decide)) (Or.inl (by decide)) (Or.inl (by decide)) (by omega)]; exact x3 r hr⟩
      · rw [cif_f q3]; exact h
  · rw [cif_f q1]; exact h
theorem thenS_wf {σ : Sg} {r : Nat} (h : WF σ) (h8 : σ 0 3 < 8) (hr : r < σ 0 2) : WF (thenS σ r) := by
  obtain ⟨a1, a2, a3, a4, a5, a6, a7, a8⟩ := h
  have e0 : ∀ k, k ≠ 3 → thenS σ r 0 k = σ 0 k := fun k hk => by unfold thenS; rw [sU_n (Or.inr hk), sU_o (by decide)]
  have e3 : thenS σ r 0 3 = σ 0 3 + 1 := by unfold thenS; rw [sU_t]
  have e : ∀ a k, a ≠ 0 → a ≠ 6 → thenS σ r a k = σ a k := fun a k h0 h6 => by unfold thenS; rw [sU_o h0, sU_o h6]
  refine ⟨by rw [e0 0 (by decide)]; exact a1, by rw [e0 1 (by decide)]; exact a2, by rw [e0 2 (by decide)]; exact a3, by rw [e3]; omega, by rw [e0 4 (by decide)]; exact a5, fun w hw => ?_, fun q hq => ?_, fun i hi => ?_⟩
  · rw [e0 1 (by decide)] at hw
    rw [e 1 w (by decide) (by decide), e 2 w (by decide) (by decide)]
    obtain ⟨b1, b2, b3, b4⟩ := a6 w hw
    exact ⟨b1, b2, b3, fun k hk => by rw [e (10 + w) k (by omega) (by omega)]; exact b4 k hk⟩
  · rw [e0 2 (by decide)] at hq
    rw [e 3 q (by decide) (by decide), e 4 q (by decide) (by decide), e 5 q (by decide) (by decide)]
    exact a7 q hq
  · rw [e3] at hi
    rw [e0 2 (by decide)]
    unfold thenS
    rw [sU_o (by decide)]
    by_cases z : i = σ 0 3
    · subst z; rw [sU_t]; exact hr
    · rw [sU_n (Or.inr z)]; exact a8 i (by omega)
theorem WO.then {Ω : OM} (h : WO Ω) (a : Int32) : WO (thenF Ω a).2 := by
  unfold thenF
  have h6 := h.1.2.2.1
  have h8 := h.1.2.2.2.1
  by_cases q1 : hB a ((oG Ω) 0 2) = 1
  · rw [cif_t q1]
    obtain ⟨r, hr, rfl⟩ := (hB_1 (by omega)).mp q1
    rw [nI_clamp (by omega)]
    by_cases q2 : (oG Ω) 0 3 = 8
    · rw [cif_t q2]; exact h
    · rw [cif_f q2]
      refine h.g (thenS_wf h.1 (by omega) hr) (by unfold thenS; rw [sU_n (Or.inr (by decide)), sU_o (by decide)]; exact h.2.2.1) (fun kk => ?_)
      obtain ⟨x1, x2, x3, x4⟩ := h.2.1 kk
      exact ⟨by unfold thenS; rw [sU_n (Or.inr (by decide)), sU_o (by decide)]; exact x2, fun r hr => by unfold thenS; rw [sU_o (by decide), sU_o (by decide)]; exact x3 r hr⟩
  · rw [cif_f q1]; exact h
theorem WO.clear {Ω : OM} (h : WO Ω) : WO (clearF Ω).2 := by
  obtain ⟨a1, a2, a3, a4, a5, a6, a7, a8⟩ := h.1
  have e0 : ∀ k, k ≠ 3 → sU (oG Ω) 0 3 0 0 k = (oG Ω) 0 k := fun k hk => sU_n (Or.inr hk)
  have e : ∀ a k, a ≠ 0 → sU (oG Ω) 0 3 0 a k = (oG Ω) a k := fun a k h0 => sU_o h0
  refine h.g (σ := sU (oG Ω) 0 3 0) ?_ (by rw [e0 4 (by decide)]; exact h.2.2.1) (fun kk => ?_)
  · refine ⟨by rw [e0 0 (by decide)]; exact a1, by rw [e0 1 (by decide)]; exact a2, by rw [e0 2 (by decide)]; exact a3, by rw [sU_t]; exact Nat.zero_le _, by rw [e0 4 (by decide)]; exact a5, fun w hw => ?_, fun q hq => ?_, fun i hi => ?_⟩
    · rw [e0 1 (by decide)] at hw
      rw [e 1 w (by decide), e 2 w (by decide)]
      obtain ⟨b1, b2, b3, b4⟩ := a6 w hw
      exact ⟨b1, b2, b3, fun k hk => by rw [e (10 + w) k (by omega)]; exact b4 k hk⟩
    · rw [e0 2 (by decide)] at hq
      rw [e 3 q (by decide), e 4 q (by decide), e 5 q (by decide)]
      exact a7 q hq
    · rw [sU_t] at hi
      exact absurd hi (Nat.not_lt_zero _)
  · obtain ⟨x1, x2, x3, x4⟩ := h.2.1 kk
    exact ⟨by rw [e0 2 (by decide)]; exact x2, fun r hr => by rw [e 3 r (by decide)]; exact x3 r hr⟩
theorem chgS_k {σ : Sg} {t i v : Nat} : (∀ r, chgS σ t i v 3 r = σ 3 r) ∧ chgS σ t i v 0 2 = σ 0 2 ∧ chgS σ t i v 0 4 = σ 0 4 := by
  unfold chgS
  by_cases h0 : t = 0
  · rw [if_pos h0]; exact ⟨fun r => sU_o (by decide), sU_n (Or.inr (by decide)), sU_n (Or.inr (by decide))⟩
  · rw [if_neg h0]
    by_cases h1 : t = 1
    · rw [if_pos h1]; exact ⟨fun r => sU_o (by decide), sU_o (by decide), sU_o (by decide)⟩
    · rw [if_neg h1]
      by_cases h2 : t = 2
      · rw [if_pos h2]; exact ⟨fun r => sU_o (by decide), sU_o (by decide), sU_o (by decide)⟩
      · rw [if_neg h2]
        by_cases h3 : t = 3
        · rw [if_pos h3]; exact ⟨fun r => sU_o (by decide), sU_o (by decide), sU_o (by decide)⟩
        · rw [if_neg h3]; exact ⟨fun r => sU_o (by decide), sU_o (by decide), sU_o (by decide)⟩
theorem WO.set {Ω : OM} (h : WO Ω) (t i v : Int32) : WO (setF Ω t i v).2 := by
  unfold setF
  by_cases q : hpB (oG Ω) t i = 1 ∧ chB (oG Ω) t v = 1
  · rw [if_pos q]
    obtain ⟨t', i', rfl, ht, -, -, -⟩ := hpB_1 h.1 q.1
    obtain ⟨n, rfl, hn, hcl, c1, c4, cr⟩ := chB_1 h.1 q.2
    rw [nI_clamp (show t' < 2 ^ 31 by omega), nI_clamp (show n < 2 ^ 31 by omega)]
    have hne : ∀ j, j < 5 → t' ≠ j → nI t' ≠ nI j := fun j hj hn z => hn ((nI_eq (by omega) (by omega)).mp z)
    refine h.g (h.1.chg ?_) (by rw [chgS_k.2.2]; exact h.2.2.1) (fun kk => ?_)
    · rcases (show t' = 0 ∨ t' = 1 ∨ t' = 2 ∨ t' = 3 ∨ t' = 4 by omega) with e | e | e | e | e <;> subst e
      · exact Or.inl ⟨rfl, hn⟩
      · exact Or.inr (Or.inl ⟨rfl, c1 rfl⟩)
      · exact Or.inr (Or.inr (Or.inl ⟨rfl, cr (by decide) (by decide) (by decide)⟩))
      · exact Or.inr (Or.inr (Or.inr (Or.inl ⟨rfl, cr (by decide) (by decide) (by decide)⟩)))
      · exact Or.inr (Or.inr (Or.inr (Or.inr ⟨rfl, c4 rfl⟩)))
    · obtain ⟨x1, x2, x3, x4⟩ := h.2.1 kk
      exact ⟨by rw [chgS_k.2.1]; exact x2, fun r hr => by rw [chgS_k.1]; exact x3 r hr⟩
  · rw [if_neg q]; exact h
theorem WO.feed {Ω : OM} (h : WO Ω) (a : Int32) : WO (feedF Ω a).2 := by
  unfold feedF
  by_cases q1 : wB a 255 = 1
  · rw [if_pos q1]
    obtain ⟨b, hb, rfl⟩ := (wB_1 (n := 255) (by decide)).mp q1
    obtain ⟨a1, a2, a3, a4, a5, a6, a7⟩ := h
    by_cases q2 : oN Ω = 160
    · rw [if_pos q2]; exact ⟨a1, a2, a3, a4, a5, a6, a7⟩
    · rw [if_neg q2]
      refine ⟨a1, a2, a3, a4, by show oN Ω + 1 ≤ 160; omega, fun k hk => ?_, a7⟩
      have hk : k < oN Ω + 1 := hk
      show ∃ c, c < 256 ∧ upd (oB Ω) (oN Ω) (nI b) k = nI c
      by_cases e : k = oN Ω
      · exact ⟨b, by omega, by simp [upd, e]⟩
      · obtain ⟨c, c1, c2⟩ := a6 k (by omega)
        exact ⟨c, c1, by simp [upd, e]; exact c2⟩
  · rw [if_neg q1]; exact h
theorem WO.text {Ω : OM} (h : WO Ω) : WO (textF Ω).2 := by
  unfold textF
  obtain ⟨a1, a2, a3, a4, a5, a6, a7⟩ := id h
  by_cases q : oQ Ω = 6
  · rw [if_pos q]; exact h
  · rw [if_neg q]
    cases hr : rdP (tks (oB Ω) (oN Ω) 161 0) with
    | mk x rs =>
      cases x with
      | none => exact ⟨a1, a2, a3, a4, Nat.zero_le _, fun k hk => absurd hk (Nat.not_lt_zero k), a7⟩
      | some abc =>
        refine ⟨a1, fun k => ?_, Nat.lt_succ_of_lt a3, by show oQ Ω + 1 ≤ 6; omega, Nat.zero_le _, fun k hk => absurd hk (Nat.not_lt_zero k), a7⟩
        obtain ⟨x1, x2, x3, x4⟩ := a2 k
        exact ⟨x1, x2, x3, Nat.lt_succ_of_lt x4⟩
theorem WO.force {Ω : OM} (h : WO Ω) (a : Int32) : WO (forceF Ω a).2 := by
  unfold forceF
  have h6 := h.2.2.2.1
  by_cases q : hB a (oQ Ω) = 1
  · rw [if_pos q]
    obtain ⟨t, ht, rfl⟩ := (hB_1 (by omega)).mp q
    rw [nI_clamp (by omega)]
    refine h.g (h.1.lw (by omega)) (by rw [sU_t]; exact ht) (fun kk => ?_)
    obtain ⟨x1, x2, x3, x4⟩ := h.2.1 kk
    exact ⟨by rw [sU_n (Or.inr (by decide))]; exact x2, fun r hr => by rw [sU_o (by decide)]; exact x3 r hr⟩
  · rw [if_neg q]; exact h
theorem WO.s {Ω : OM} (h : WO Ω) {i n : Nat} {s : Int32} {f : Nat → Int32} (hs : (s = -1 ∧ n = 0) ∨ ((∃ k, k < 3 ∧ s = nI k) ∧ n ≤ 40)) : WO (uS Ω i s n f) := by
  obtain ⟨a1, a2, a3, a4, a5, a6, a7⟩ := h
  refine ⟨a1, a2, a3, a4, a5, a6, fun j hj => ?_⟩
  unfold shOK oS oZ uS
  by_cases e : j = i
  · simp only [e, if_true]; exact hs
  · simp only [e, if_false]; exact a7 j hj
theorem WO.film {Ω : OM} (h : WO Ω) (a b : Int32) : WO (filmF Ω a b).2 := by
  unfold filmF
  have h8 := h.1.2.1
  by_cases q : wB a 3 = 1 ∧ hB b ((oG Ω) 0 1) = 1
  · rw [cif_t q]
    obtain ⟨w, hw, rfl⟩ := (hB_1 (by omega)).mp q.2
    rw [nI_clamp (show w < 2 ^ 31 by omega)]
    have hwo := saidS_wf h.1 (rowL_wf h.1) hw
    cases hs : saidS (oG Ω) (rowL (oG Ω)) w with
    | none => exact h
    | some xs =>
      rw [hs] at hwo
      exact h.s (Or.inr ⟨⟨0, by decide, rfl⟩, (hwo xs rfl).2.2⟩)
  · rw [cif_f q]; exact h
theorem WO.image {Ω : OM} (h : WO Ω) : WO (imageF Ω).2 := by
  obtain ⟨a1, a2, a3, a4⟩ := h
  exact ⟨a1, fun _ => ⟨a1, Nat.le_refl _, fun _ _ => rfl, a3⟩, a3, a4⟩
theorem WO.back {Ω : OM} (h : WO Ω) : WO (backF Ω).2 := by
  unfold backF
  by_cases k : oK Ω = true
  · rw [if_pos k]
    obtain ⟨x1, x2, x3, x4⟩ := h.2.1 k
    exact h.g x1 x4 (fun _ => ⟨Nat.le_refl _, fun _ _ => rfl⟩)
  · rw [if_neg k]; exact h
theorem WO.sheet {Ω : OM} (h : WO Ω) (a s n : Int32) : WO (sheetF Ω a s n).2 := by
  unfold sheetF
  by_cases q1 : wB a 3 = 1 ∧ ¬ s < -1 ∧ ¬ 2 < s
  · rw [cif_t q1]
    by_cases q2 : s = -1
    · rw [cif_t q2]; exact h.s (Or.inl ⟨rfl, rfl⟩)
    · rw [cif_f q2]
      by_cases q3 : 40 < n
      · rw [cif_t q3]; exact h
      · rw [cif_f q3]
        by_cases q4 : n < 0
        · rw [cif_t q4]; exact h
        · rw [cif_f q4]
          obtain ⟨k, hk, rfl⟩ := nI_of q4
          have h0 : ¬ s < 0 := fun z => q2 ((m1_lt q1.2.1).mp z)
          obtain ⟨j, hj, rfl⟩ := nI_of h0
          refine h.s (Or.inr ⟨⟨j, ?_, rfl⟩, ?_⟩)
          · have : ¬ 2 < j := fun z => q1.2.2 (nI_lt (a := 2) z hj)
            omega
          · rw [nI_clamp hk]
            have : ¬ 40 < k := fun z => q3 (nI_lt (a := 40) z hk)
            omega
  · rw [cif_f q1]; exact h
theorem WO.cell {Ω : OM} (h : WO Ω) (a i v : Int32) : WO (cellF Ω a i v).2 := by
  unfold cellF
  by_cases q1 : wB a 3 = 1
  · rw [cif_t q1]
    obtain ⟨k, hk, rfl⟩ := (wB_1 (n := 3) (by decide)).mp q1
    rw [nI_clamp (by omega)]
    by_cases q2 : oS Ω k = -1
    · rw [cif_t q2]; exact h
    · rw [cif_f q2]
      by_cases q3 : hB i (oZ Ω k) = 1
      · rw [cif_t q3]
        have hs := h.2.2.2.2.2.2 k (by omega)
        exact h.s (Or.inr ⟨hs.sort q2, hs.le⟩)
      · rw [cif_f q3]; exact h
  · rw [cif_f q1]; exact h
theorem WO.copy {Ω : OM} (h : WO Ω) (a i b j n : Int32) : WO (copyF Ω a i b j n).2 := by
  unfold copyF
  by_cases q1 : wB a 3 = 1 ∧ wB b 3 = 1
  · rw [cif_t q1]
    obtain ⟨k, hk, rfl⟩ := (wB_1 (n := 3) (by decide)).mp q1.2
    rw [nI_clamp (show k < 2 ^ 31 by omega)]
    by_cases q2 : oS Ω a.toNatClampNeg = -1 ∨ oS Ω k = -1
    · rw [cif_t q2]; exact h
    · rw [cif_f q2]
      by_cases q3 : oS Ω a.toNatClampNeg = oS Ω k
      · rw [cif_t q3]
        by_cases q4 : hoB (oZ Ω a.toNatClampNeg) i n = 1 ∧ hoB (oZ Ω k) j n = 1
        · rw [cif_t q4]
          have hs := h.2.2.2.2.2.2 k (by omega)
          exact h.s (Or.inr ⟨hs.sort (fun z => q2 (Or.inr z)), hs.le⟩)
        · rw [cif_f q4]; exact h
      · rw [cif_f q3]; exact h
  · rw [cif_f q1]; exact h
theorem WO.rulG {i : Nat} {fr : Int32} (f : Nat) : ∀ (k c : Nat) (Ω : OM), WO Ω → WO (rulG i fr f k c Ω).2 := by
  induction f with
  | zero => intro k c Ω h; exact h
  | succ f ih =>
    intro k c Ω h
    rw [rulG_s]
    by_cases q : hoB (oZ Ω i) (fr + 3 * nI k) 3 = 1
    · rw [cif_t q]; exact ih _ _ _ (h.rule _ _ _)
    · rw [cif_f q]; exact h
theorem WO.rules {Ω : OM} (h : WO Ω) (a s fr n : Int32) : WO (rulesF Ω a s fr n).2 := by
  unfold rulesF
  by_cases q1 : wB a 3 = 1 ∧ wB s 2 = 1 ∧ wB n 6 = 1
  · rw [cif_t q1]
    by_cases q2 : oS Ω a.toNatClampNeg = -1
    · rw [cif_t q2]; exact h
    · rw [cif_f q2]
      by_cases q3 : oS Ω a.toNatClampNeg = s
      · rw [cif_t q3]; exact WO.rulG _ _ _ _ h
      · rw [cif_f q3]; exact h
  · rw [cif_f q1]; exact h
-- answers given as relations are one
theorem alTR_u {Ω : OM} {x y : Int32} (h1 : alTR Ω x) (h2 : alTR Ω y) : x = y := isBits.uniq h1 h2 (fun _ => Iff.rfl)
theorem nI5 {b : Int32} {p q : Nat} (hp : p ≤ 4) (hq : q ≤ 4) (h1 : b = nI p) (h2 : b = nI q) : p = q := (nI_eq (by omega) (by omega)).mp (h1.symm.trans h2)
theorem allR_u {Ω : OM} {b x y : Int32} (h1 : allR Ω b x) (h2 : allR Ω b y) : x = y := by
  have no : ∀ p q : Nat, p ≤ 4 → q ≤ 4 → p ≠ q → b = nI p → b = nI q → False := fun p q hp hq hn a b => hn (nI5 hp hq a b)
  rcases h1 with ⟨e1, a⟩ | ⟨e1, a⟩ | ⟨e1, a⟩ | ⟨e1, a⟩ | ⟨e1, a⟩ | ⟨e1, a⟩ <;> rcases h2 with ⟨e2, c⟩ | ⟨e2, c⟩ | ⟨e2, c⟩ | ⟨e2, c⟩ | ⟨e2, c⟩ | ⟨e2, c⟩
  all_goals first
    | exact a.trans c.symm
    | exact isBits.uniq a c (fun _ => Iff.rfl)
    | exact isLeast.uniq a c (fun _ => Iff.rfl)
    | exact absurd (e1.symm.trans e2) (by decide)
    | exact absurd e1 (e2 0 (by decide))
    | exact absurd e1 (e2 1 (by decide))
    | exact absurd e1 (e2 2 (by decide))
    | exact absurd e1 (e2 3 (by decide))
    | exact absurd e1 (e2 4 (by decide))
    | exact absurd e2 (e1 0 (by decide))
    | exact absurd e2 (e1 1 (by decide))
    | exact absurd e2 (e1 2 (by decide))
    | exact absurd e2 (e1 3 (by decide))
    | exact absurd e2 (e1 4 (by decide))
theorem heardX_u {Ω : OM} {i : Nat} {b x y : Int32} (h1 : heardX Ω i b x) (h2 : heardX Ω i b y) : x = y := by
  rcases h1 with ⟨e1, a⟩ | ⟨e1, a⟩ | ⟨e1, a⟩ <;> rcases h2 with ⟨e2, c⟩ | ⟨e2, c⟩ | ⟨e2, c⟩
  all_goals first
    | exact a.trans c.symm
    | exact isBits.uniq a c (fun _ => Iff.rfl)
    | exact absurd (e1.symm.trans e2) (by decide)
theorem heardR_u {Ω : OM} {a b x y : Int32} (h1 : heardR Ω a b x) (h2 : heardR Ω a b y) : x = y := by
  rcases h1 with ⟨a1, a2, a3⟩ | ⟨a1, a2⟩ <;> rcases h2 with ⟨b1, b2, b3⟩ | ⟨b1, b2⟩
  · rcases a3 with ⟨c1, c2⟩ | ⟨c1, c2⟩ <;> rcases b3 with ⟨d1, d2⟩ | ⟨d1, d2⟩
    · exact c2.trans d2.symm
    · exact absurd c1 d1
    · exact absurd d1 c1
    · exact heardX_u c2 d2
  · exact absurd ⟨a1, a2⟩ b1
  · exact absurd ⟨b1, b2⟩ a1
  · exact a2.trans b2.symm
theorem ofR_u {Ω : OM} (hW : WO Ω) {a b x y : Int32} (h1 : ofR Ω a b x) (h2 : ofR Ω a b y) : x = y := by
  have h8 := hW.1.2.1
  rcases h1 with ⟨w, hw, e, h1⟩ | ⟨n1, h1⟩ <;> rcases h2 with ⟨w', hw', e', h2⟩ | ⟨n2, h2⟩
  · have ew : w = w' := (nI_eq (by omega) (by omega)).mp (e.symm.trans e')
    subst ew
    rcases h1 with ⟨p, p1, e1, a⟩ | ⟨e1, a⟩ | ⟨e1, a⟩ | ⟨e1, a⟩ <;> rcases h2 with ⟨p', p2, e2, c⟩ | ⟨e2, c⟩ | ⟨e2, c⟩ | ⟨e2, c⟩
    · have : p = p' := (nI_eq (by omega) (by omega)).mp (e1.symm.trans e2)
      subst this
      exact a.trans c.symm
    · have : p = 3 := (nI_eq (b := 3) (by omega) (by decide)).mp (e1.symm.trans e2)
      omega
    · have : p = 4 := (nI_eq (b := 4) (by omega) (by decide)).mp (e1.symm.trans e2)
      omega
    · exact absurd e1 (e2 p (by omega))
    · have : p' = 3 := (nI_eq (b := 3) (by omega) (by decide)).mp (e2.symm.trans e1)
      omega
    · exact a.trans c.symm
    · exact absurd (e1.symm.trans e2) (by decide)
    · exact absurd e1 (e2 3 (by decide))
    · have : p' = 4 := (nI_eq (b := 4) (by omega) (by decide)).mp (e2.symm.trans e1)
      omega
    · exact absurd (e1.symm.trans e2) (by decide)
    · exact isBits.uniq a c (fun _ => Iff.rfl)
    · exact absurd e1 (e2 4 (by decide))
    · exact absurd e2 (e1 p' (by omega))
    · exact absurd e2 (e1 3 (by decide))
    · exact absurd e2 (e1 4 (by decide))
    · exact a.trans c.symm
  · exact absurd ⟨w, hw, e⟩ n2
  · exact absurd ⟨w', hw', e'⟩ n1
  · exact h1.trans h2.symm
theorem foundR_u {Ω : OM} (hW : WO Ω) {a b c e x y : Int32} (h1 : foundR Ω a b c e x) (h2 : foundR Ω a b c e y) : x = y := by
  have h8 := hW.1.2.1
  have h6 := hW.1.2.2.1
  rcases h1 with ⟨i, w, r, p, i1, i2, w1, w2, r1, r2, p1, p2, h1⟩ | ⟨n1, h1⟩ <;> rcases h2 with ⟨i', w', r', p', i1', i2', w1', w2', r1', r2', p1', p2', h2⟩ | ⟨n2, h2⟩
  · have ei : i = i' := (nI_eq (by omega) (by omega)).mp (i2.symm.trans i2')
    have ew : w = w' := (nI_eq (by omega) (by omega)).mp (w2.symm.trans w2')
    have er : r = r' := (nI_eq (by omega) (by omega)).mp (r2.symm.trans r2')
    have ep : p = p' := (nI_eq (by omega) (by omega)).mp (p2.symm.trans p2')
    subst ei ew er ep
    rcases h1 with ⟨c1, c2⟩ | ⟨c1, c2⟩ <;> rcases h2 with ⟨d1, d2⟩ | ⟨d1, d2⟩
    · exact c2.trans d2.symm
    · exact absurd c1 d1
    · exact absurd d1 c1
    · exact isBits.uniq c2 d2 (fun _ => Iff.rfl)
  · exact absurd ⟨i, w, r, p, i1, i2, w1, w2, r1, r2, p1, p2⟩ n2
  · exact absurd ⟨i', w', r', p', i1', i2', w1', w2', r1', r2', p1', p2'⟩ n1
  · exact h1.trans h2.symm
