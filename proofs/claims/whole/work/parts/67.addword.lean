/-- with a word more -/
def addW (σ : Sg) (x : Nat → Nat) (n g : Nat) : Sg := sU (sU (sU (fun a k => if a = 10 + σ 0 1 then x k else σ a k) 1 (σ 0 1) n) 2 (σ 0 1) g) 0 1 (σ 0 1 + 1)
theorem addW_n {σ : Sg} {x : Nat → Nat} {n g a k : Nat} (h0 : a ≠ 0 ∨ k ≠ 1) (h1 : a ≠ 1 ∨ k ≠ σ 0 1) (h2 : a ≠ 2 ∨ k ≠ σ 0 1) (h3 : a ≠ 10 + σ 0 1) : addW σ x n g a k = σ a k := by
  unfold addW
  rw [sU_n h0, sU_n h2, sU_n h1, if_neg h3]
theorem addW_x {σ : Sg} {x : Nat → Nat} {n g k : Nat} : addW σ x n g (10 + σ 0 1) k = x k := by
  unfold addW
  rw [sU_n (Or.inl (by omega)), sU_n (Or.inl (by omega)), sU_n (Or.inl (by omega)), if_pos rfl]
theorem addW_1 {σ : Sg} {x : Nat → Nat} {n g : Nat} : addW σ x n g 1 (σ 0 1) = n := by
  unfold addW
  rw [sU_n (Or.inl (by decide)), sU_n (Or.inl (by decide)), sU_s]
theorem addW_2 {σ : Sg} {x : Nat → Nat} {n g : Nat} : addW σ x n g 2 (σ 0 1) = g := by
  unfold addW
  rw [sU_n (Or.inl (by decide)), sU_s]
theorem addW_0 {σ : Sg} {x : Nat → Nat} {n g : Nat} : addW σ x n g 0 1 = σ 0 1 + 1 := sU_s
theorem addW_wf {σ : Sg} (h : WF σ) {x : Nat → Nat} {n g : Nat} (h8 : σ 0 1 < 8) (hn1 : 1 ≤ n) (hn : n ≤ 10) (hg : g ≤ 99) (hx : ∀ k, k < n → x k < 26) : WF (addW σ x n g) := by
  obtain ⟨h1, h2, h3, h4, h5, h6, h7, h9⟩ := h
  have e00 : addW σ x n g 0 0 = σ 0 0 := addW_n (by decide) (Or.inl (by decide)) (Or.inl (by decide)) (by omega)
  have e02 : addW σ x n g 0 2 = σ 0 2 := addW_n (by decide) (Or.inl (by decide)) (Or.inl (by decide)) (by omega)
  have e03 : addW σ x n g 0 3 = σ 0 3 := addW_n (by decide) (Or.inl (by decide)) (Or.inl (by decide)) (by omega)
  have e04 : addW σ x n g 0 4 = σ 0 4 := addW_n (by decide) (Or.inl (by decide)) (Or.inl (by decide)) (by omega)
  unfold WF
  rw [e00, addW_0, e02, e03, e04]
  refine ⟨h1, by omega, h3, h4, h5, fun w hw => ?_, fun r hr => ?_, fun i hi => ?_⟩
  · by_cases e : w = σ 0 1
    · subst e
      rw [addW_1, addW_2]
      exact ⟨hn1, hn, hg, fun k hk => by rw [addW_x]; exact hx k hk⟩
    · obtain ⟨y1, y2, y3, y4⟩ := h6 w (by omega)
      rw [addW_n (a := 1) (Or.inl (by decide)) (Or.inr e) (Or.inl (by decide)) (by omega), addW_n (a := 2) (Or.inl (by decide)) (Or.inl (by decide)) (Or.inr e) (by omega)]
      exact ⟨y1, y2, y3, fun k hk => by rw [addW_n (Or.inl (by omega)) (Or.inl (by omega)) (Or.inl (by omega)) (by omega)]; exact y4 k hk⟩
  · rw [addW_n (a := 3) (Or.inl (by decide)) (Or.inl (by decide)) (Or.inl (by decide)) (by omega), addW_n (a := 4) (Or.inl (by decide)) (Or.inl (by decide)) (Or.inl (by decide)) (by omega), addW_n (a := 5) (Or.inl (by decide)) (Or.inl (by decide)) (Or.inl (by decide)) (by omega)]
    exact h7 r hr
  · rw [addW_n (a := 6) (Or.inl (by decide)) (Or.inl (by decide)) (Or.inl (by decide)) (by omega)]
    exact h9 i hi
theorem c_addWord {l : Launch} {X : XT} {d : Nat} {h n g : Nat} {x : Nat → Nat} {m : Mem} {σ : Sg} (hd : 1 ≤ d) (hs : RepS m 1 σ) (h8 : σ 0 1 < 8) (hh : 235 ≤ h) (hn : m h 2 = nI n) (hn10 : n ≤ 10) (hx : ∀ k, k < n → m (h + 1) k = nI (x k)) : Meth l X d M_X7_addWord [vR 8 1, vR 7 h, vI (nI g)] m (fun r m' => r = some (vI (nI (σ 0 1))) ∧ RepS m' 1 (addW σ x n g) ∧ ∀ a, (a < 1 ∨ 17 < a) → m' a = m a) := by
  obtain ⟨d, rfl⟩ : ∃ e, d = e + 1 := ⟨d - 1, by omega⟩
  obtain ⟨h1, h2, h3, h4, h5, h7, h9, h10⟩ := hs
  refine E_X7_addWord (ls := [vR 8 1, vR 7 h, vI (nI g)]) rfl rfl ?_
  repeat refine AW.s rfl ?_
  try dsimp only [List.set_cons_zero, List.set_cons_succ, Option.toList_some, Option.toList_none, List.cons_append, List.nil_append]
  rw [h2]
  refine AW.c rfl (vp_in_nI (by omega) (by decide)) ?_
  try dsimp only [List.set_cons_zero, List.set_cons_succ, Option.toList_some, Option.toList_none, List.cons_append, List.nil_append]
  rw [nI_clamp (by omega)]
  repeat refine AW.s rfl ?_
  try dsimp only [List.set_cons_zero, List.set_cons_succ, Option.toList_some, Option.toList_none, List.cons_append, List.nil_append]
  rw [hn]
  refine AW.cpy k_7_58 rfl rfl rfl rfl (by decide) (by decide) (nI_pos (by omega)) ?_ ?_ ?_
  · rw [nI_clamp (by omega)]; show 0 + n ≤ 40; omega
  · rw [nI_clamp (by omega)]; show 0 + n ≤ 10; omega
  rw [nI_clamp (by omega), show (0 : Int32).toNatClampNeg = 0 from rfl]
  generalize hm1 : mSr m _ _ = m1
  have f1 : ∀ a, a ≠ 1 + 2 + σ 0 1 → m1 a = m a := fun a e => by rw [← hm1, mSr_n (by omega)]
  have f2 : ∀ k, k < n → m1 (1 + 2 + σ 0 1) k = nI (x k) := fun k hk => by
    rw [← hm1, show 1 + 1 + 1 + 1 * σ 0 1 = 1 + 2 + σ 0 1 by omega, mSr_s, pk_cpy_in (Nat.zero_le _) (by omega), show 0 + (k - 0) = k by omega]
    exact hx k hk
  repeat refine AW.s rfl ?_
  try dsimp only [List.set_cons_zero, List.set_cons_succ, Option.toList_some, Option.toList_none, List.cons_append, List.nil_append]
  rw [f1 1 (by omega), f1 h (by omega), h2, hn]
  refine AW.c rfl (⟨vp_in_nI (by omega) (by decide), fun z => absurd z (by decide)⟩) ?_
  try dsimp only [List.set_cons_zero, List.set_cons_succ, Option.toList_some, Option.toList_none, List.cons_append, List.nil_append]
  rw [nI_clamp (by omega)]
  repeat refine AW.s rfl ?_
  try dsimp only [List.set_cons_zero, List.set_cons_succ, Option.toList_some, Option.toList_none, List.cons_append, List.nil_append]
  rw [mUp_a (by decide), f1 1 (by omega), h2]
  refine AW.c rfl (⟨vp_in_nI (by omega) (by decide), fun z => absurd z (by decide)⟩) ?_
  try dsimp only [List.set_cons_zero, List.set_cons_succ, Option.toList_some, Option.toList_none, List.cons_append, List.nil_append]
  rw [nI_clamp (by omega)]
  repeat refine AW.s rfl ?_
  try dsimp only [List.set_cons_zero, List.set_cons_succ, Option.toList_some, Option.toList_none, List.cons_append, List.nil_append]
  rw [mUp_s, mUp_a (by decide), mUp_a (by decide), f1 1 (by omega), h2, nI_1, nI_s1]
  generalize hm2 : mUp (mUp (mUp m1 _ _ _) _ _ _) _ _ _ = m2
  have g1 : ∀ a, a ≠ 1 → a ≠ 11 → a ≠ 12 → m2 a = m1 a := fun a e1 e2 e3 => by rw [← hm2, mUp_a e1, mUp_a e3, mUp_a e2]
  have g2 : ∀ k, k ≠ 4 → m2 1 k = m 1 k := fun k e => by rw [← hm2, mUp_n (Or.inr e), mUp_a (by decide), mUp_a (by decide), f1 1 (by omega)]
  have g3 : m2 1 4 = nI (σ 0 1 + 1) := by rw [← hm2, mUp_s]
  have g4 : ∀ k, m2 11 k = if k = σ 0 1 then nI n else m 11 k := fun k => by
    rw [← hm2, mUp_a (by decide), mUp_a (by decide)]
    split
    · next e => subst e; exact mUp_s _ _ _ _
    · next e => rw [mUp_n (Or.inr e), f1 11 (by omega)]
  have g5 : ∀ k, m2 12 k = if k = σ 0 1 then nI g else m 12 k := fun k => by
    rw [← hm2, mUp_a (by decide)]
    split
    · next e => subst e; exact mUp_s _ _ _ _
    · next e => rw [mUp_n (Or.inr e), mUp_a (by decide), f1 12 (by omega)]
  refine AW.ri rfl rfl rfl ⟨rfl, ?_, fun a ha => by rw [g1 a (by omega) (by omega) (by omega), f1 a (by omega)]⟩
  unfold RepS
  rw [addW_n (a := 0) (k := 0) (by decide) (Or.inl (by decide)) (Or.inl (by decide)) (by omega), addW_0, addW_n (a := 0) (k := 2) (by decide) (Or.inl (by decide)) (Or.inl (by decide)) (by omega), addW_n (a := 0) (k := 3) (by decide) (Or.inl (by decide)) (Or.inl (by decide)) (by omega), addW_n (a := 0) (k := 4) (by decide) (Or.inl (by decide)) (Or.inl (by decide)) (by omega), g2 0 (by decide), g2 8 (by decide), g2 10 (by decide), g1 (1 + 15) (by decide) (by decide) (by decide), f1 (1 + 15) (by omega)]
  refine ⟨h1, g3, h3, h4, fun w hw => ?_, fun r hr => ?_, h9, fun i hi => ?_⟩
  · show m2 11 w = _ ∧ m2 12 w = _ ∧ _
    rw [g4, g5]
    by_cases e : w = σ 0 1
    · subst e
      rw [if_pos rfl, if_pos rfl, addW_1, addW_2]
      refine ⟨rfl, rfl, fun k hk => ?_⟩
      rw [g1 _ (by omega) (by omega) (by omega), addW_x]
      exact f2 k hk
    · obtain ⟨y1, y2, y3⟩ := h5 w (by omega)
      rw [if_neg e, if_neg e, addW_n (a := 1) (Or.inl (by decide)) (Or.inr e) (Or.inl (by decide)) (by omega), addW_n (a := 2) (Or.inl (by decide)) (Or.inl (by decide)) (Or.inr e) (by omega)]
      refine ⟨y1, y2, fun k hk => ?_⟩
      rw [g1 _ (by omega) (by omega) (by omega), f1 _ (by omega), addW_n (Or.inl (by omega)) (Or.inl (by omega)) (Or.inl (by omega)) (by omega)]
      exact y3 k hk
  · rw [addW_n (a := 3) (Or.inl (by decide)) (Or.inl (by decide)) (Or.inl (by decide)) (by omega), addW_n (a := 4) (Or.inl (by decide)) (Or.inl (by decide)) (Or.inl (by decide)) (by omega), addW_n (a := 5) (Or.inl (by decide)) (Or.inl (by decide)) (Or.inl (by decide)) (by omega), g1 (1 + 12) (by decide) (by decide) (by decide), g1 (1 + 13) (by decide) (by decide) (by decide), g1 (1 + 14) (by decide) (by decide) (by decide), f1 (1 + 12) (by omega), f1 (1 + 13) (by omega), f1 (1 + 14) (by omega)]
    exact h7 r hr
  · rw [addW_n (a := 6) (Or.inl (by decide)) (Or.inl (by decide)) (Or.inl (by decide)) (by omega), g1 (1 + 16) (by decide) (by decide) (by decide), f1 (1 + 16) (by omega)]
    exact h10 i hi
