-- ===== read, text =====
/-- a whole text: its three parts -/
def rdP (ts : List TK) : Option (FX × FX × FX) × List TK := match prtP 4 ts with
  | (none, r) => (none, r)
  | (some a, r) => match prtP 5 r with
    | (none, r) => (none, r)
    | (some b, r) => match prtP 6 r with
      | (none, r) => (none, r)
      | (some c, r) => if hk r = 0 then (some (a, b, c), r) else (none, r)
theorem nO {l : Launch} {X : XT} {t : Nat} {ts : List TK} (ht : t < 6) (hE : EOK ts) (hN : NOK ts) {d : Nat} (hd : 60 ≤ d) : RDC l X t ts M_X2_readE (eP (pk 5).2) 0 d := rd_E ht hE (D := 57) (by omega) (rd_all ht hE hN 5 0 rfl).2 d (by omega)
theorem c_readPart {l : Launch} {X : XT} {d t p : Nat} {ts : List TK} {key : Int32} {m : Mem} {i s : Nat} (hd : 61 ≤ d) (ht : t < 6) (hp : p < 3) (hE : EOK ts) (hN : NOK ts) (hkey : 1 < key) (hP : PSt m (199 + 6 * t) ts i 0 s s) (hi : i < ts.length) (hsi : s ≤ i) :
    Meth l X d M_X2_readPart [vR 3 41, vI key, vI (nI p)] m (fun r m' => (∃ i1, prtP key (ts.drop i) = (none, ts.drop i1) ∧ r = some (vI 0) ∧ PFai m (199 + 6 * t) ts i1 s m') ∨ ∃ e i1 s1 m2, prtP key (ts.drop i) = (some e, ts.drop i1) ∧ r = some (vI 1) ∧ m' = mUp m2 (199 + 6 * t + 5) p (nI s1) ∧ s < s1 ∧ i1 < ts.length ∧ s1 ≤ i1 ∧ PXf m m2 (199 + 6 * t) s ∧ PSt m2 (199 + 6 * t) ts i1 0 s1 s ∧ ∀ F, cvF (m2 (199 + 6 * t + 1)) (m2 (199 + 6 * t + 2)) (m2 (199 + 6 * t + 3)) F s1 (s1 - 1) = e F) := by
  obtain ⟨d, rfl⟩ : ∃ e, d = e + 1 := ⟨d - 1, by omega⟩
  have hlE := hE.1
  refine E_X2_readPart (ls := [vR 3 41, vI key, vI (nI p)]) rfl rfl ?_
  repeat refine AW.s rfl ?_
  try dsimp only [List.set_cons_zero, List.set_cons_succ, Option.toList_some, Option.toList_none, List.cons_append, List.nil_append]
  refine AW.V k_2_60 ((c_take (k := key) (by omega) hP hE hi)) rfl rfl rfl rfl rfl rfl (fun r1 m1 hq => ?_)
  rcases hq with ⟨hk1, rfl, hm1⟩ | ⟨hk1, rfl, hm1⟩
  · rw [hm1]
    have hnx : i + 1 < ts.length := hk_nx hE hi (by rw [hk1]; exact hkey)
    obtain ⟨q1, q2⟩ := hP.at (by omega) (i + 1)
    try dsimp only [List.set_cons_zero, List.set_cons_succ, Option.toList_some, Option.toList_none, List.cons_append, List.nil_append]
    refine AW.b rfl (fun hc => ?_) (fun hc => ?_)
    · exact absurd hc (by decide)
    · repeat refine AW.s rfl ?_
      try dsimp only [List.set_cons_zero, List.set_cons_succ, Option.toList_some, Option.toList_none, List.cons_append, List.nil_append]
      refine AW.V k_2_64 ((nO ht hE hN (by omega) _ (i + 1) s s q1 hnx (Nat.le_refl _) (by omega))) rfl rfl rfl rfl rfl rfl (fun r1 m2 hq => ?_)
      obtain ⟨c, rfl, hp2⟩ := hq
      rcases hp2 with ⟨i1, hq1, rfl, f1, f2, f3⟩ | ⟨e, i1, s1, hq1, rfl, h1⟩
      · repeat refine AW.s rfl ?_
        try dsimp only [List.set_cons_zero, List.set_cons_succ, Option.toList_some, Option.toList_none, List.cons_append, List.nil_append]
        refine AW.b rfl (fun hc => ?_) (fun hc => ?_)
        · repeat refine AW.s rfl ?_
          try dsimp only [List.set_cons_zero, List.set_cons_succ, Option.toList_some, Option.toList_none, List.cons_append, List.nil_append]
          refine AW.ri rfl rfl rfl (Or.inl ⟨i1, ?_, rfl, f1, f2, q2.tr f3 (Nat.le_refl _)⟩)
          unfold prtP
          rw [if_pos hk1, tl_dr, hq1]
        · exact absurd rfl hc
      · obtain ⟨a1, a2, a3, a4, a5, a6, a7⟩ := h1
        have e0 : prtP key (ts.drop i) = if hk (ts.drop i1) = 59 then (some e, ts.drop (i1 + 1)) else (none, ts.drop i1) := by
          unfold prtP
          rw [if_pos hk1, tl_dr, hq1]
          show (if hk (ts.drop i1) = 59 then (some e, (ts.drop i1).tail) else (none, ts.drop i1)) = _
          rw [tl_dr]
        repeat refine AW.s rfl ?_
        try dsimp only [List.set_cons_zero, List.set_cons_succ, Option.toList_some, Option.toList_none, List.cons_append, List.nil_append]
        refine AW.b rfl (fun hc => ?_) (fun hc => ?_)
        · exact absurd hc (nI_m1 (by omega))
        · repeat refine AW.s rfl ?_
          try dsimp only [List.set_cons_zero, List.set_cons_succ, Option.toList_some, Option.toList_none, List.cons_append, List.nil_append]
          refine AW.V k_2_60 ((c_take (k := 59) (by omega) a6 hE a2)) rfl rfl rfl rfl rfl rfl (fun r1 m3 hq => ?_)
          rcases hq with ⟨hk2, rfl, hm3⟩ | ⟨hk2, rfl, hm3⟩
          · rw [if_pos hk2] at e0
            rw [hm3]
            have hnx2 : i1 + 1 < ts.length := hk_nx hE a2 (by rw [hk2]; decide)
            obtain ⟨q3, q4⟩ := a6.at (by omega) (i1 + 1)
            have hTT : (mUp m2 41 2 (nI (i1 + 1)) 41 1).toNatClampNeg = 199 + 6 * t := by rw [q3.2.1]; exact nI_clamp (by omega)
            try dsimp only [List.set_cons_zero, List.set_cons_succ, Option.toList_some, Option.toList_none, List.cons_append, List.nil_append]
            refine AW.b rfl (fun hc => ?_) (fun hc => ?_)
            · exact absurd hc (by decide)
            · repeat refine AW.s rfl ?_
              try dsimp only [List.set_cons_zero, List.set_cons_succ, Option.toList_some, Option.toList_none, List.cons_append, List.nil_append]
              refine AW.c rfl ((by rw [hTT]; exact layT_T t ht)) ?_
              try dsimp only [List.set_cons_zero, List.set_cons_succ, Option.toList_some, Option.toList_none, List.cons_append, List.nil_append]
              rw [hTT]
              repeat refine AW.s rfl ?_
              try dsimp only [List.set_cons_zero, List.set_cons_succ, Option.toList_some, Option.toList_none, List.cons_append, List.nil_append]
              refine AW.V k_2_67 ((c_endPart hp)) rfl rfl rfl rfl rfl rfl (fun r1 m4 hq => ?_)
              obtain ⟨rfl, hm4⟩ := hq
              rw [hm4, q3.2.2.2.2.2.1]
              repeat refine AW.s rfl ?_
              try dsimp only [List.set_cons_zero, List.set_cons_succ, Option.toList_some, Option.toList_none, List.cons_append, List.nil_append]
              refine AW.ri rfl rfl rfl (Or.inr ⟨e, i1 + 1, s1, _, e0, rfl, rfl, a3, hnx2, by omega, (q2.tr a5 (Nat.le_refl _)).tr q4 (Nat.le_of_lt a3), q3, fun F => ?_⟩)
              rw [mUp_a (by omega), mUp_a (by omega), mUp_a (by omega)]
              exact a7 F
          · rw [if_neg hk2] at e0
            rw [hm3]
            try dsimp only [List.set_cons_zero, List.set_cons_succ, Option.toList_some, Option.toList_none, List.cons_append, List.nil_append]
            refine AW.b rfl (fun hc => ?_) (fun hc => ?_)
            · repeat refine AW.s rfl ?_
              try dsimp only [List.set_cons_zero, List.set_cons_succ, Option.toList_some, Option.toList_none, List.cons_append, List.nil_append]
              exact AW.ri rfl rfl rfl (Or.inl ⟨i1, e0, rfl, a2, a6.2.2.1, q2.tr a5 (Nat.le_refl _)⟩)
            · exact absurd rfl hc
  · rw [hm1]
    try dsimp only [List.set_cons_zero, List.set_cons_succ, Option.toList_some, Option.toList_none, List.cons_append, List.nil_append]
    refine AW.b rfl (fun hc => ?_) (fun hc => ?_)
    · repeat refine AW.s rfl ?_
      try dsimp only [List.set_cons_zero, List.set_cons_succ, Option.toList_some, Option.toList_none, List.cons_append, List.nil_append]
      refine AW.ri rfl rfl rfl (Or.inl ⟨i, ?_, rfl, hi, hP.2.2.1, PXf.rf⟩)
      unfold prtP
      rw [if_neg hk1]
    · exact absurd rfl hc
-- ===== tokens end, names are names =====
theorem wdF_gt {g : Nat → Int32} {s p : Nat} (h : p < s) (h1 : 97 ≤ g p ∧ g p ≤ 122) : p < wdF g (s - p) p := by
  obtain ⟨f, hf⟩ : ∃ f, s - p = f + 1 := ⟨s - p - 1, by omega⟩
  rw [hf]
  unfold wdF
  rw [if_neg (Int32.not_lt.mpr h1.1), if_neg (Int32.not_lt.mpr h1.2)]
  have := wdF_le g f (p + 1)
  omega
theorem nbF_gt {g : Nat → Int32} {s p : Nat} (h : p < s) (h1 : 48 ≤ g p ∧ g p ≤ 57) (v : Int32) : p < (nbF g (s - p) p v).1 := by
  obtain ⟨f, hf⟩ : ∃ f, s - p = f + 1 := ⟨s - p - 1, by omega⟩
  rw [hf]
  unfold nbF
  rw [if_neg (Int32.not_lt.mpr h1.1), if_neg (Int32.not_lt.mpr h1.2)]
  have := nbF_le g f (p + 1) (v * 10 + g p - 48)
  omega
theorem tokF_gt {g : Nat → Int32} {s p : Nat} (h : 1 < (tokF g s p).1) : p < s ∧ p < (tokF g s p).2.2 := by
  unfold tokF at h ⊢
  by_cases h0 : s ≤ p
  · rw [if_pos h0] at h
    exact absurd (show (1 : Int32) < 0 from h) (by decide)
  · rw [if_neg h0]
    by_cases h1 : 97 ≤ g p ∧ g p ≤ 122
    · rw [if_pos h1]; exact ⟨by omega, wdF_gt (by omega) h1⟩
    · rw [if_neg h1]
      by_cases h2 : 48 ≤ g p ∧ g p ≤ 57
      · rw [if_pos h2]; exact ⟨by omega, nbF_gt (by omega) h2 _⟩
      · rw [if_neg h2]; exact ⟨by omega, Nat.lt_succ_self p⟩
theorem tks_ne {g : Nat → Int32} {s f p : Nat} : 0 < (tks g s (f + 1) p).length := Nat.succ_pos _
theorem tks_len {g : Nat → Int32} {s : Nat} (f : Nat) : ∀ p, (tks g s f p).length ≤ f := by
  induction f with
  | zero => intro p; exact Nat.le_refl _
  | succ f ih =>
    intro p
    unfold tks
    rw [List.length_cons]
    split
    · have := ih (tokF g s (blF g (s - p) p)).2.2; omega
    · show 0 + 1 ≤ f + 1; omega
theorem tks_end {g : Nat → Int32} {s : Nat} (f : Nat) : ∀ p, p ≤ s → s - p < f → ∀ (j : Nat) (t : TK), (tks g s f p)[j]? = some t → 1 < t.1 → j + 1 < (tks g s f p).length := by
  induction f with
  | zero => intro p hp hf; omega
  | succ f ih =>
    intro p hp hf j t hj ht
    have hb := blF_le g (s - p) p
    have hl := tokF_le (g := g) (s := s) (p := blF g (s - p) p) (by omega)
    unfold tks at hj ⊢
    rw [List.length_cons]
    cases j with
    | zero =>
      cases hj
      have hg := tokF_gt ht
      rw [if_pos ht]
      obtain ⟨f, rfl⟩ : ∃ f', f = f' + 1 := ⟨f - 1, by omega⟩
      have := tks_ne (g := g) (s := s) (f := f) (p := (tokF g s (blF g (s - p) p)).2.2)
      omega
    | succ j =>
      rw [List.getElem?_cons_succ] at hj
      by_cases hk : 1 < (tokF g s (blF g (s - p) p)).1
      · rw [if_pos hk] at hj ⊢
        have hg := tokF_gt hk
        have := ih (tokF g s (blF g (s - p) p)).2.2 (by omega) (by omega) j t hj ht
        omega
      · rw [if_neg hk] at hj
        cases hj
theorem tks_EOK {g : Nat → Int32} {s : Nat} (hs : s ≤ 160) : EOK (tks g s 161 0) := ⟨tks_len 161 0, tks_end 161 0 (Nat.zero_le _) (by omega)⟩
theorem spF_le (g : Nat → Int32) (p e : Nat) (f : Nat) : ∀ i, i + f ≤ 12 → spF g p e f i ≤ 12 := by
  induction f with
  | zero => intro i _; exact Nat.le_refl _
  | succ f ih =>
    intro i hi
    unfold spF
    split
    · omega
    · exact ih (i + 1) (by omega)
theorem sgn_ne : ∀ b, b < 256 → sgnB b = true → ¬ nI b = 3 := by decide +kernel
/-- what a token may be -/
theorem tokF_3 {g : Nat → Int32} {s p : Nat} (hby : ∀ k, k < s → ∃ b, b < 256 ∧ g k = nI b) (h : (tokF g s p).1 = 3) : ∃ n, n < 6 ∧ (tokF g s p).2.1 = nI n := by
  unfold tokF at h ⊢
  by_cases h0 : s ≤ p
  · rw [if_pos h0] at h
    exact absurd (show (0 : Int32) = 3 from h) (by decide)
  · rw [if_neg h0] at h ⊢
    by_cases h1 : 97 ≤ g p ∧ g p ≤ 122
    · rw [if_pos h1] at h ⊢
      have hle := spF_le g p (wdF g (s - p) p) 12 0 (by decide)
      generalize spF g p (wdF g (s - p) p) 12 0 = i at h hle ⊢
      have h : (tokW i).1 = 3 := h
      show ∃ n, n < 6 ∧ (tokW i).2 = nI n
      have key : ∀ i, i ≤ 12 → (tokW i).1 = 3 → i < 6 ∧ (tokW i).2 = nI i := by decide +kernel
      exact ⟨i, (key i hle h).1, (key i hle h).2⟩
    · rw [if_neg h1] at h ⊢
      by_cases h2 : 48 ≤ g p ∧ g p ≤ 57
      · rw [if_pos h2] at h
        have h : (if 4 < (nbF g (s - p) p 0).1 - p then (1 : Int32) else 2) = 3 := h
        split at h <;> exact absurd h (by decide)
      · rw [if_neg h2] at h
        have h : (if sgnB (g p).toNatClampNeg then g p else 1) = 3 := h
        obtain ⟨b, hb, eb⟩ := hby p (by omega)
        rw [eb, nI_clamp (by omega)] at h
        by_cases q : sgnB b = true
        · rw [if_pos q] at h
          exact absurd h (sgn_ne b hb q)
        · rw [if_neg q] at h
          exact absurd h (by decide)
theorem tks_NOK {g : Nat → Int32} {s : Nat} (hby : ∀ k, k < s → ∃ b, b < 256 ∧ g k = nI b) (f : Nat) : ∀ p, NOK (tks g s f p) := by
  induction f with
  | zero => intro p j t h; cases h
  | succ f ih =>
    intro p j t hj ht
    unfold tks at hj
    cases j with
    | zero =>
      cases hj
      exact tokF_3 hby ht
    | succ j =>
      rw [List.getElem?_cons_succ] at hj
      split at hj
      · exact ih _ j t hj ht
      · cases hj
-- tokens of two tapes that are alike
theorem blF_c {g g' : Nat → Int32} {s : Nat} (h : ∀ k, k < s → g k = g' k) (f : Nat) : ∀ p, p + f ≤ s → blF g f p = blF g' f p := by
  induction f with
  | zero => intro p _; rfl
  | succ f ih =>
    intro p hp
    unfold blF
    rw [h p (by omega), ih (p + 1) (by omega)]
theorem wdF_c {g g' : Nat → Int32} {s : Nat} (h : ∀ k, k < s → g k = g' k) (f : Nat) : ∀ p, p + f ≤ s → wdF g f p = wdF g' f p := by
  induction f with
  | zero => intro p _; rfl
  | succ f ih =>
    intro p hp
    unfold wdF
    rw [h p (by omega), ih (p + 1) (by omega)]
theorem nbF_c {g g' : Nat → Int32} {s : Nat} (h : ∀ k, k < s → g k = g' k) (f : Nat) : ∀ p v, p + f ≤ s → nbF g f p v = nbF g' f p v := by
  induction f with
  | zero => intro p v _; rfl
  | succ f ih =>
    intro p v hp
    unfold nbF
    rw [h p (by omega), ih (p + 1) _ (by omega)]
theorem spB_c {g g' : Nat → Int32} {s p e i : Nat} (h : ∀ k, k < s → g k = g' k) (he : e ≤ s) : spB g p e i = spB g' p e i := by
  rw [Bool.eq_iff_iff, spB_1, spB_1]
  refine and_congr Iff.rfl ⟨fun q k hk => ?_, fun q k hk => ?_⟩
  · rw [← h (p + k) (by omega)]; exact q k hk
  · rw [h (p + k) (by omega)]; exact q k hk
theorem spF_c {g g' : Nat → Int32} {s p e : Nat} (h : ∀ k, k < s → g k = g' k) (he : e ≤ s) (f : Nat) : ∀ i, spF g p e f i = spF g' p e f i := by
  induction f with
  | zero => intro i; rfl
  | succ f ih =>
    intro i
    unfold spF
    rw [spB_c h he, ih]
theorem tokF_c {g g' : Nat → Int32} {s p : Nat} (h : ∀ k, k < s → g k = g' k) : tokF g s p = tokF g' s p := by
  unfold tokF
  by_cases h0 : s ≤ p
  · rw [if_pos h0, if_pos h0]
  · rw [if_neg h0, if_neg h0, h p (by omega), wdF_c h (s - p) p (by omega), nbF_c h (s - p) p 0 (by omega), spF_c h (by have := wdF_le g' (s - p) p; omega)]
theorem tks_c {g g' : Nat → Int32} {s : Nat} (h : ∀ k, k < s → g k = g' k) (f : Nat) : ∀ p, p ≤ s → tks g s f p = tks g' s f p := by
  induction f with
  | zero => intro p _; rfl
  | succ f ih =>
    intro p hp
    have hb := blF_le g' (s - p) p
    have hl := tokF_le (g := g') (s := s) (p := blF g' (s - p) p) (by omega)
    unfold tks
    rw [blF_c h (s - p) p (by omega), tokF_c h, ih _ hl.2]
